theorem eq_garden {s1 m1 : ST} (hR : Rel s1 m1) (x1 x2 x3 x4 : Int32) : ∃ (r : Int32) (s2 : ST) (m2 : ST), F_X6_garden s1 x1 x2 x3 x4 = some (r, s2) ∧ F_X7_garden m1 x1 x2 x3 x4 = some (r, m2) ∧ Rel s2 m2 := sorry
theorem eq_years {s1 m1 : ST} (hR : Rel s1 m1) (x1 x2 x3 x4 x5 : Int32) : ∃ (r : Int32) (s2 : ST) (m2 : ST), F_X6_years s1 x1 x2 x3 x4 x5 = some (r, s2) ∧ F_X7_years m1 x1 x2 x3 x4 x5 = some (r, m2) ∧ Rel s2 m2 := sorry
theorem eq_round {s1 m1 : ST} (hR : Rel s1 m1) (x1 x2 : Int32) : ∃ (r : Int32), F_X6_round s1 x1 x2 = some r ∧ F_X7_round m1 x1 x2 = some r := sorry
theorem eq_laws {s1 m1 : ST} (hR : Rel s1 m1) (x1 x2 x3 x4 x5 : Int32) : ∃ (r : Int32) (s2 : ST) (m2 : ST), F_X6_laws s1 x1 x2 x3 x4 x5 = some (r, s2) ∧ F_X7_laws m1 x1 x2 x3 x4 x5 = some (r, m2) ∧ Rel s2 m2 := sorry
