def pure_Rel (_ _ : tj_S) : Prop := True
theorem pure_sim : tj_Sim pure_Rel := sorry
theorem pure_init : pure_Rel X_s0 M_s0 := trivial
