section ZJ
variable {X : zCx} {h : zHp}
theorem c_max (G : zG X) (a b : Int32) : ZM X MJ9_max_7cf53 0 100 [.int a, .int b] h (fun r h' => h' = h ∧ r = .inl (some (.int (if a < b then b else a)))) := by
  refine zm_of_z G KJ9_max_7cf53 rfl rfl ?_
  refine z_go 9 rfl ?_
  refine z_br rfl rfl (fun c => ?_) (fun c => ?_)
  · refine z_go 9 rfl ?_
    exact z_iret rfl rfl ⟨rfl, by rw [if_pos c]⟩
  · refine z_go 9 rfl ?_
    exact z_iret rfl rfl ⟨rfl, by rw [if_neg c]⟩
end ZJ
