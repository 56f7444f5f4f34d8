set_option maxHeartbeats 4000000 in
set_option maxRecDepth 10000 in
theorem act_tw : ∀ v, W2 (fun S => fL_act S v) := by
  intro v
  unfold fL_act
  simp only [jn1]
  repeat' first | (refine w2_bn ?_ (fun _ _ => ?_)) | (refine w2_if ?_ ?_) | exact ⟨_, rfl⟩ | (refine ex_bn (low_ex _ _ (by decide)) (fun _ => ?_)) | exact low_ex _ _ (by decide) | (refine ex_if ?_ ?_) | exact w2_leaf tw_face | exact w2_leaf tw_part | exact w2_leaf tw_redraw | exact w2_leaf tw_hole | exact w2_leaf tw_near | exact w2_leaf tw_told | exact w2_leaf tw_tool | exact w2_leaf tw_trial | exact w2_leaf tw_blank | exact w2_leaf tw_why | exact w2_leaf tw_flips | exact w2_leaf tw_ordered | exact w2_leaf tw_want | exact w2_leaf tw_nest | exact w2_leaf tw_batch | exact w2_leaf tw_work | exact w2_leaf tw_batchOf | exact w2_leaf tw_kits | exact w2_leaf tw_take | exact w2_leaf (tw_point (by first | exact t10 (by assumption) | exact t01 (by assumption)) (by first | exact t10 (by assumption) | exact t01 (by assumption))) | exact w2_raw tw_wipe | exact w2_raw tw_clear
