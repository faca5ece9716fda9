section S32b
variable {h : Hp} {g : GS} {s : St}
theorem t7_set (hR : RC h s) (hS : SI s) (x1 x2 : Int32) : CT h s (f7_set x1 x2) (setS s.g x1 x2) := by
  unfold CT f7_set f7_set_e
  exact C_change (op := f1_changeSetting x1 x2) hR hS (fun h hC => by obtain ⟨h', a, b, c⟩ := C_set hC x1 x2; exact ⟨h', a, b, fr5 c⟩) (neg_set hS.1 x1 x2)
end S32b
