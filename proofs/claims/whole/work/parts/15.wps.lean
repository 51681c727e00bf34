section WSS
variable {G : GT} {y : MD} {d rc rs pc : Nat} {lv : LL} {st : List Value} {h : Hp} {Q : RT → Hp → Prop} {K : KT}
theorem wss_iconst_n {n : _} (hK : ∀ rc rs pc lv st h, K rc rs pc lv st h → V G y d rc rs pc lv st h Q) (hd : decode y.2.1 pc = .ok (.iconst n, 1)) (hw : ws G y d Q K rc rs pc lv st h (.iconst n)) : V G y d rc rs pc lv st h Q := by
  unfold ws at hw
  dsimp only at hw
  exact V_iconst hd (hK _ _ _ _ _ _ hw)
theorem wss_bipush_n {n : _} (hK : ∀ rc rs pc lv st h, K rc rs pc lv st h → V G y d rc rs pc lv st h Q) (hd : decode y.2.1 pc = .ok (.bipush n, 2)) (hw : ws G y d Q K rc rs pc lv st h (.bipush n)) : V G y d rc rs pc lv st h Q := by
  unfold ws at hw
  dsimp only at hw
  exact V_bipush hd (hK _ _ _ _ _ _ hw)
theorem wss_sipush_n {n : _} (hK : ∀ rc rs pc lv st h, K rc rs pc lv st h → V G y d rc rs pc lv st h Q) (hd : decode y.2.1 pc = .ok (.sipush n, 3)) (hw : ws G y d Q K rc rs pc lv st h (.sipush n)) : V G y d rc rs pc lv st h Q := by
  unfold ws at hw
  dsimp only at hw
  exact V_sipush hd (hK _ _ _ _ _ _ hw)
theorem wss_lconst_n {n : _} (hK : ∀ rc rs pc lv st h, K rc rs pc lv st h → V G y d rc rs pc lv st h Q) (hd : decode y.2.1 pc = .ok (.lconst n, 1)) (hw : ws G y d Q K rc rs pc lv st h (.lconst n)) : V G y d rc rs pc lv st h Q := by
  unfold ws at hw
  dsimp only at hw
  exact V_lconst hd (hK _ _ _ _ _ _ hw)
theorem wss_aconst_null (hK : ∀ rc rs pc lv st h, K rc rs pc lv st h → V G y d rc rs pc lv st h Q) (hd : decode y.2.1 pc = .ok (.aconst_null, 1)) (hw : ws G y d Q K rc rs pc lv st h (.aconst_null)) : V G y d rc rs pc lv st h Q := by
  unfold ws at hw
  dsimp only at hw
  exact V_null hd (hK _ _ _ _ _ _ hw)
theorem wss_fconst_n {n : _} (hK : ∀ rc rs pc lv st h, K rc rs pc lv st h → V G y d rc rs pc lv st h Q) (hd : decode y.2.1 pc = .ok (.fconst n, 1)) (hw : ws G y d Q K rc rs pc lv st h (.fconst n)) : V G y d rc rs pc lv st h Q := by
  unfold ws at hw
  dsimp only at hw
  obtain ⟨rfl, hw⟩ := hw; exact V_fconst0 hd (hK _ _ _ _ _ _ hw)
theorem wss_dconst_n {n : _} (hK : ∀ rc rs pc lv st h, K rc rs pc lv st h → V G y d rc rs pc lv st h Q) (hd : decode y.2.1 pc = .ok (.dconst n, 1)) (hw : ws G y d Q K rc rs pc lv st h (.dconst n)) : V G y d rc rs pc lv st h Q := by
  unfold ws at hw
  dsimp only at hw
  obtain ⟨rfl, hw⟩ := hw; exact V_dconst0 hd (hK _ _ _ _ _ _ hw)
theorem wss_iload_n_i {i : _} (hK : ∀ rc rs pc lv st h, K rc rs pc lv st h → V G y d rc rs pc lv st h Q) (hd : decode y.2.1 pc = .ok (.iload_n i, 1)) (hw : ws G y d Q K rc rs pc lv st h (.iload_n i)) : V G y d rc rs pc lv st h Q := by
  unfold ws at hw
  dsimp only at hw
  split at hw
  · rename_i x9 he; exact V_iload_n hd he (hK _ _ _ _ _ _ hw)
  · exact hw.elim
theorem wss_iload_i {i : _} (hK : ∀ rc rs pc lv st h, K rc rs pc lv st h → V G y d rc rs pc lv st h Q) (hd : decode y.2.1 pc = .ok (.iload i, 2)) (hw : ws G y d Q K rc rs pc lv st h (.iload i)) : V G y d rc rs pc lv st h Q := by
  unfold ws at hw
  dsimp only at hw
  split at hw
  · rename_i x9 he; exact V_iload hd he (hK _ _ _ _ _ _ hw)
  · exact hw.elim
theorem wss_istore_n_i {i : _} (hK : ∀ rc rs pc lv st h, K rc rs pc lv st h → V G y d rc rs pc lv st h Q) (hd : decode y.2.1 pc = .ok (.istore_n i, 1)) (hw : ws G y d Q K rc rs pc lv st h (.istore_n i)) : V G y d rc rs pc lv st h Q := by
  unfold ws at hw
  dsimp only at hw
  split at hw
  · exact V_istore_n hd hw.1 (hK _ _ _ _ _ _ hw.2)
  · exact hw.elim
theorem wss_istore_i {i : _} (hK : ∀ rc rs pc lv st h, K rc rs pc lv st h → V G y d rc rs pc lv st h Q) (hd : decode y.2.1 pc = .ok (.istore i, 2)) (hw : ws G y d Q K rc rs pc lv st h (.istore i)) : V G y d rc rs pc lv st h Q := by
  unfold ws at hw
  dsimp only at hw
  split at hw
  · exact V_istore hd hw.1 (hK _ _ _ _ _ _ hw.2)
  · exact hw.elim
theorem wss_lload_n_i {i : _} (hK : ∀ rc rs pc lv st h, K rc rs pc lv st h → V G y d rc rs pc lv st h Q) (hd : decode y.2.1 pc = .ok (.lload_n i, 1)) (hw : ws G y d Q K rc rs pc lv st h (.lload_n i)) : V G y d rc rs pc lv st h Q := by
  unfold ws at hw
  dsimp only at hw
  split at hw
  · rename_i x9 he; exact V_lload_n hd he (hK _ _ _ _ _ _ hw)
  · exact hw.elim
theorem wss_lload_i {i : _} (hK : ∀ rc rs pc lv st h, K rc rs pc lv st h → V G y d rc rs pc lv st h Q) (hd : decode y.2.1 pc = .ok (.lload i, 2)) (hw : ws G y d Q K rc rs pc lv st h (.lload i)) : V G y d rc rs pc lv st h Q := by
  unfold ws at hw
  dsimp only at hw
  split at hw
  · rename_i x9 he; exact V_lload hd he (hK _ _ _ _ _ _ hw)
  · exact hw.elim
theorem wss_lstore_n_i {i : _} (hK : ∀ rc rs pc lv st h, K rc rs pc lv st h → V G y d rc rs pc lv st h Q) (hd : decode y.2.1 pc = .ok (.lstore_n i, 1)) (hw : ws G y d Q K rc rs pc lv st h (.lstore_n i)) : V G y d rc rs pc lv st h Q := by
  unfold ws at hw
  dsimp only at hw
  split at hw
  · exact V_lstore_n hd hw.1 (hK _ _ _ _ _ _ hw.2)
  · exact hw.elim
theorem wss_lstore_i {i : _} (hK : ∀ rc rs pc lv st h, K rc rs pc lv st h → V G y d rc rs pc lv st h Q) (hd : decode y.2.1 pc = .ok (.lstore i, 2)) (hw : ws G y d Q K rc rs pc lv st h (.lstore i)) : V G y d rc rs pc lv st h Q := by
  unfold ws at hw
  dsimp only at hw
  split at hw
  · exact V_lstore hd hw.1 (hK _ _ _ _ _ _ hw.2)
  · exact hw.elim
theorem wss_fload_n_i {i : _} (hK : ∀ rc rs pc lv st h, K rc rs pc lv st h → V G y d rc rs pc lv st h Q) (hd : decode y.2.1 pc = .ok (.fload_n i, 1)) (hw : ws G y d Q K rc rs pc lv st h (.fload_n i)) : V G y d rc rs pc lv st h Q := by
  unfold ws at hw
  dsimp only at hw
  split at hw
  · rename_i x9 he; exact V_fload_n hd he (hK _ _ _ _ _ _ hw)
  · exact hw.elim
theorem wss_fload_i {i : _} (hK : ∀ rc rs pc lv st h, K rc rs pc lv st h → V G y d rc rs pc lv st h Q) (hd : decode y.2.1 pc = .ok (.fload i, 2)) (hw : ws G y d Q K rc rs pc lv st h (.fload i)) : V G y d rc rs pc lv st h Q := by
  unfold ws at hw
  dsimp only at hw
  split at hw
  · rename_i x9 he; exact V_fload hd he (hK _ _ _ _ _ _ hw)
  · exact hw.elim
theorem wss_fstore_n_i {i : _} (hK : ∀ rc rs pc lv st h, K rc rs pc lv st h → V G y d rc rs pc lv st h Q) (hd : decode y.2.1 pc = .ok (.fstore_n i, 1)) (hw : ws G y d Q K rc rs pc lv st h (.fstore_n i)) : V G y d rc rs pc lv st h Q := by
  unfold ws at hw
  dsimp only at hw
  split at hw
  · exact V_fstore_n hd hw.1 (hK _ _ _ _ _ _ hw.2)
  · exact hw.elim
theorem wss_fstore_i {i : _} (hK : ∀ rc rs pc lv st h, K rc rs pc lv st h → V G y d rc rs pc lv st h Q) (hd : decode y.2.1 pc = .ok (.fstore i, 2)) (hw : ws G y d Q K rc rs pc lv st h (.fstore i)) : V G y d rc rs pc lv st h Q := by
  unfold ws at hw
  dsimp only at hw
  split at hw
  · exact V_fstore hd hw.1 (hK _ _ _ _ _ _ hw.2)
  · exact hw.elim
theorem wss_dload_n_i {i : _} (hK : ∀ rc rs pc lv st h, K rc rs pc lv st h → V G y d rc rs pc lv st h Q) (hd : decode y.2.1 pc = .ok (.dload_n i, 1)) (hw : ws G y d Q K rc rs pc lv st h (.dload_n i)) : V G y d rc rs pc lv st h Q := by
  unfold ws at hw
  dsimp only at hw
  split at hw
  · rename_i x9 he; exact V_dload_n hd he (hK _ _ _ _ _ _ hw)
  · exact hw.elim
theorem wss_dload_i {i : _} (hK : ∀ rc rs pc lv st h, K rc rs pc lv st h → V G y d rc rs pc lv st h Q) (hd : decode y.2.1 pc = .ok (.dload i, 2)) (hw : ws G y d Q K rc rs pc lv st h (.dload i)) : V G y d rc rs pc lv st h Q := by
  unfold ws at hw
  dsimp only at hw
  split at hw
  · rename_i x9 he; exact V_dload hd he (hK _ _ _ _ _ _ hw)
  · exact hw.elim
theorem wss_dstore_n_i {i : _} (hK : ∀ rc rs pc lv st h, K rc rs pc lv st h → V G y d rc rs pc lv st h Q) (hd : decode y.2.1 pc = .ok (.dstore_n i, 1)) (hw : ws G y d Q K rc rs pc lv st h (.dstore_n i)) : V G y d rc rs pc lv st h Q := by
  unfold ws at hw
  dsimp only at hw
  split at hw
  · exact V_dstore_n hd hw.1 (hK _ _ _ _ _ _ hw.2)
  · exact hw.elim
theorem wss_dstore_i {i : _} (hK : ∀ rc rs pc lv st h, K rc rs pc lv st h → V G y d rc rs pc lv st h Q) (hd : decode y.2.1 pc = .ok (.dstore i, 2)) (hw : ws G y d Q K rc rs pc lv st h (.dstore i)) : V G y d rc rs pc lv st h Q := by
  unfold ws at hw
  dsimp only at hw
  split at hw
  · exact V_dstore hd hw.1 (hK _ _ _ _ _ _ hw.2)
  · exact hw.elim
theorem wss_aload_n_i {i : _} (hK : ∀ rc rs pc lv st h, K rc rs pc lv st h → V G y d rc rs pc lv st h Q) (hd : decode y.2.1 pc = .ok (.aload_n i, 1)) (hw : ws G y d Q K rc rs pc lv st h (.aload_n i)) : V G y d rc rs pc lv st h Q := by
  unfold ws at hw
  dsimp only at hw
  split at hw
  · rename_i x9 he; exact V_aload_n hd he (hK _ _ _ _ _ _ hw)
  · exact hw.elim
theorem wss_aload_i {i : _} (hK : ∀ rc rs pc lv st h, K rc rs pc lv st h → V G y d rc rs pc lv st h Q) (hd : decode y.2.1 pc = .ok (.aload i, 2)) (hw : ws G y d Q K rc rs pc lv st h (.aload i)) : V G y d rc rs pc lv st h Q := by
  unfold ws at hw
  dsimp only at hw
  split at hw
  · rename_i x9 he; exact V_aload hd he (hK _ _ _ _ _ _ hw)
  · exact hw.elim
theorem wss_astore_n_i {i : _} (hK : ∀ rc rs pc lv st h, K rc rs pc lv st h → V G y d rc rs pc lv st h Q) (hd : decode y.2.1 pc = .ok (.astore_n i, 1)) (hw : ws G y d Q K rc rs pc lv st h (.astore_n i)) : V G y d rc rs pc lv st h Q := by
  unfold ws at hw
  dsimp only at hw
  split at hw
  · exact V_astore_n hd hw.1 (hK _ _ _ _ _ _ hw.2)
  · exact hw.elim
theorem wss_astore_i {i : _} (hK : ∀ rc rs pc lv st h, K rc rs pc lv st h → V G y d rc rs pc lv st h Q) (hd : decode y.2.1 pc = .ok (.astore i, 2)) (hw : ws G y d Q K rc rs pc lv st h (.astore i)) : V G y d rc rs pc lv st h Q := by
  unfold ws at hw
  dsimp only at hw
  split at hw
  · exact V_astore hd hw.1 (hK _ _ _ _ _ _ hw.2)
  · exact hw.elim
theorem wss_iinc_i_n {i : _} {n : _} (hK : ∀ rc rs pc lv st h, K rc rs pc lv st h → V G y d rc rs pc lv st h Q) (hd : decode y.2.1 pc = .ok (.iinc i n, 3)) (hw : ws G y d Q K rc rs pc lv st h (.iinc i n)) : V G y d rc rs pc lv st h Q := by
  unfold ws at hw
  dsimp only at hw
  split at hw
  · rename_i x9 he; exact V_iinc hd he hw.1 (hK _ _ _ _ _ _ hw.2)
  · exact hw.elim
theorem wss_iadd (hK : ∀ rc rs pc lv st h, K rc rs pc lv st h → V G y d rc rs pc lv st h Q) (hd : decode y.2.1 pc = .ok (.iadd, 1)) (hw : ws G y d Q K rc rs pc lv st h (.iadd)) : V G y d rc rs pc lv st h Q := by
  unfold ws at hw
  dsimp only at hw
  split at hw
  · exact V_iadd hd (hK _ _ _ _ _ _ hw)
  · exact hw.elim
theorem wss_isub (hK : ∀ rc rs pc lv st h, K rc rs pc lv st h → V G y d rc rs pc lv st h Q) (hd : decode y.2.1 pc = .ok (.isub, 1)) (hw : ws G y d Q K rc rs pc lv st h (.isub)) : V G y d rc rs pc lv st h Q := by
  unfold ws at hw
  dsimp only at hw
  split at hw
  · exact V_isub hd (hK _ _ _ _ _ _ hw)
  · exact hw.elim
theorem wss_imul (hK : ∀ rc rs pc lv st h, K rc rs pc lv st h → V G y d rc rs pc lv st h Q) (hd : decode y.2.1 pc = .ok (.imul, 1)) (hw : ws G y d Q K rc rs pc lv st h (.imul)) : V G y d rc rs pc lv st h Q := by
  unfold ws at hw
  dsimp only at hw
  split at hw
  · exact V_imul hd (hK _ _ _ _ _ _ hw)
  · exact hw.elim
theorem wss_iand (hK : ∀ rc rs pc lv st h, K rc rs pc lv st h → V G y d rc rs pc lv st h Q) (hd : decode y.2.1 pc = .ok (.iand, 1)) (hw : ws G y d Q K rc rs pc lv st h (.iand)) : V G y d rc rs pc lv st h Q := by
  unfold ws at hw
  dsimp only at hw
  split at hw
  · exact V_iand hd (hK _ _ _ _ _ _ hw)
  · exact hw.elim
theorem wss_ior (hK : ∀ rc rs pc lv st h, K rc rs pc lv st h → V G y d rc rs pc lv st h Q) (hd : decode y.2.1 pc = .ok (.ior, 1)) (hw : ws G y d Q K rc rs pc lv st h (.ior)) : V G y d rc rs pc lv st h Q := by
  unfold ws at hw
  dsimp only at hw
  split at hw
  · exact V_ior hd (hK _ _ _ _ _ _ hw)
  · exact hw.elim
theorem wss_ixor (hK : ∀ rc rs pc lv st h, K rc rs pc lv st h → V G y d rc rs pc lv st h Q) (hd : decode y.2.1 pc = .ok (.ixor, 1)) (hw : ws G y d Q K rc rs pc lv st h (.ixor)) : V G y d rc rs pc lv st h Q := by
  unfold ws at hw
  dsimp only at hw
  split at hw
  · exact V_ixor hd (hK _ _ _ _ _ _ hw)
  · exact hw.elim
theorem wss_idiv (hK : ∀ rc rs pc lv st h, K rc rs pc lv st h → V G y d rc rs pc lv st h Q) (hd : decode y.2.1 pc = .ok (.idiv, 1)) (hw : ws G y d Q K rc rs pc lv st h (.idiv)) : V G y d rc rs pc lv st h Q := by
  unfold ws at hw
  dsimp only at hw
  split at hw
  · exact V_idiv hd hw.1 (hK _ _ _ _ _ _ hw.2)
  · exact hw.elim
theorem wss_irem (hK : ∀ rc rs pc lv st h, K rc rs pc lv st h → V G y d rc rs pc lv st h Q) (hd : decode y.2.1 pc = .ok (.irem, 1)) (hw : ws G y d Q K rc rs pc lv st h (.irem)) : V G y d rc rs pc lv st h Q := by
  unfold ws at hw
  dsimp only at hw
  split at hw
  · exact V_irem hd hw.1 (hK _ _ _ _ _ _ hw.2)
  · exact hw.elim
theorem wss_ishl (hK : ∀ rc rs pc lv st h, K rc rs pc lv st h → V G y d rc rs pc lv st h Q) (hd : decode y.2.1 pc = .ok (.ishl, 1)) (hw : ws G y d Q K rc rs pc lv st h (.ishl)) : V G y d rc rs pc lv st h Q := by
  unfold ws at hw
  dsimp only at hw
  split at hw
  · exact V_ishl hd (hK _ _ _ _ _ _ hw)
  · exact hw.elim
theorem wss_ishr (hK : ∀ rc rs pc lv st h, K rc rs pc lv st h → V G y d rc rs pc lv st h Q) (hd : decode y.2.1 pc = .ok (.ishr, 1)) (hw : ws G y d Q K rc rs pc lv st h (.ishr)) : V G y d rc rs pc lv st h Q := by
  unfold ws at hw
  dsimp only at hw
  split at hw
  · exact V_ishr hd (hK _ _ _ _ _ _ hw)
  · exact hw.elim
theorem wss_ladd (hK : ∀ rc rs pc lv st h, K rc rs pc lv st h → V G y d rc rs pc lv st h Q) (hd : decode y.2.1 pc = .ok (.ladd, 1)) (hw : ws G y d Q K rc rs pc lv st h (.ladd)) : V G y d rc rs pc lv st h Q := by
  unfold ws at hw
  dsimp only at hw
  split at hw
  · exact V_ladd hd (hK _ _ _ _ _ _ hw)
  · exact hw.elim
theorem wss_lsub (hK : ∀ rc rs pc lv st h, K rc rs pc lv st h → V G y d rc rs pc lv st h Q) (hd : decode y.2.1 pc = .ok (.lsub, 1)) (hw : ws G y d Q K rc rs pc lv st h (.lsub)) : V G y d rc rs pc lv st h Q := by
  unfold ws at hw
  dsimp only at hw
  split at hw
  · exact V_lsub hd (hK _ _ _ _ _ _ hw)
  · exact hw.elim
theorem wss_lcmp (hK : ∀ rc rs pc lv st h, K rc rs pc lv st h → V G y d rc rs pc lv st h Q) (hd : decode y.2.1 pc = .ok (.lcmp, 1)) (hw : ws G y d Q K rc rs pc lv st h (.lcmp)) : V G y d rc rs pc lv st h Q := by
  unfold ws at hw
  dsimp only at hw
  split at hw
  · exact V_lcmp hd (hK _ _ _ _ _ _ hw)
  · exact hw.elim
theorem wss_fdiv (hK : ∀ rc rs pc lv st h, K rc rs pc lv st h → V G y d rc rs pc lv st h Q) (hd : decode y.2.1 pc = .ok (.fdiv, 1)) (hw : ws G y d Q K rc rs pc lv st h (.fdiv)) : V G y d rc rs pc lv st h Q := by
  unfold ws at hw
  dsimp only at hw
  split at hw
  · exact V_fdiv hd hw.1 (hK _ _ _ _ _ _ hw.2)
  · exact hw.elim
theorem wss_ddiv (hK : ∀ rc rs pc lv st h, K rc rs pc lv st h → V G y d rc rs pc lv st h Q) (hd : decode y.2.1 pc = .ok (.ddiv, 1)) (hw : ws G y d Q K rc rs pc lv st h (.ddiv)) : V G y d rc rs pc lv st h Q := by
  unfold ws at hw
  dsimp only at hw
  split at hw
  · exact V_ddiv hd hw.1 (hK _ _ _ _ _ _ hw.2)
  · exact hw.elim
theorem wss_fcmp_op {op : _} (hK : ∀ rc rs pc lv st h, K rc rs pc lv st h → V G y d rc rs pc lv st h Q) (hd : decode y.2.1 pc = .ok (.fcmp op, 1)) (hw : ws G y d Q K rc rs pc lv st h (.fcmp op)) : V G y d rc rs pc lv st h Q := by
  unfold ws at hw
  dsimp only at hw
  split at hw
  · exact V_fcmp hd (hK _ _ _ _ _ _ hw)
  · exact hw.elim
theorem wss_dcmp_op {op : _} (hK : ∀ rc rs pc lv st h, K rc rs pc lv st h → V G y d rc rs pc lv st h Q) (hd : decode y.2.1 pc = .ok (.dcmp op, 1)) (hw : ws G y d Q K rc rs pc lv st h (.dcmp op)) : V G y d rc rs pc lv st h Q := by
  unfold ws at hw
  dsimp only at hw
  split at hw
  · exact V_dcmp hd (hK _ _ _ _ _ _ hw)
  · exact hw.elim
theorem wss_ineg (hK : ∀ rc rs pc lv st h, K rc rs pc lv st h → V G y d rc rs pc lv st h Q) (hd : decode y.2.1 pc = .ok (.ineg, 1)) (hw : ws G y d Q K rc rs pc lv st h (.ineg)) : V G y d rc rs pc lv st h Q := by
  unfold ws at hw
  dsimp only at hw
  split at hw
  · exact V_ineg hd (hK _ _ _ _ _ _ hw)
  · exact hw.elim
theorem wss_i2l (hK : ∀ rc rs pc lv st h, K rc rs pc lv st h → V G y d rc rs pc lv st h Q) (hd : decode y.2.1 pc = .ok (.i2l, 1)) (hw : ws G y d Q K rc rs pc lv st h (.i2l)) : V G y d rc rs pc lv st h Q := by
  unfold ws at hw
  dsimp only at hw
  split at hw
  · exact V_i2l hd (hK _ _ _ _ _ _ hw)
  · exact hw.elim
theorem wss_l2i (hK : ∀ rc rs pc lv st h, K rc rs pc lv st h → V G y d rc rs pc lv st h Q) (hd : decode y.2.1 pc = .ok (.l2i, 1)) (hw : ws G y d Q K rc rs pc lv st h (.l2i)) : V G y d rc rs pc lv st h Q := by
  unfold ws at hw
  dsimp only at hw
  split at hw
  · exact V_l2i hd (hK _ _ _ _ _ _ hw)
  · exact hw.elim
theorem wss_i2c (hK : ∀ rc rs pc lv st h, K rc rs pc lv st h → V G y d rc rs pc lv st h Q) (hd : decode y.2.1 pc = .ok (.i2c, 1)) (hw : ws G y d Q K rc rs pc lv st h (.i2c)) : V G y d rc rs pc lv st h Q := by
  unfold ws at hw
  dsimp only at hw
  split at hw
  · exact V_i2c hd (hK _ _ _ _ _ _ hw)
  · exact hw.elim
theorem wss_i2b (hK : ∀ rc rs pc lv st h, K rc rs pc lv st h → V G y d rc rs pc lv st h Q) (hd : decode y.2.1 pc = .ok (.i2b, 1)) (hw : ws G y d Q K rc rs pc lv st h (.i2b)) : V G y d rc rs pc lv st h Q := by
  unfold ws at hw
  dsimp only at hw
  split at hw
  · exact V_i2b hd (hK _ _ _ _ _ _ hw)
  · exact hw.elim
theorem wss_i2f (hK : ∀ rc rs pc lv st h, K rc rs pc lv st h → V G y d rc rs pc lv st h Q) (hd : decode y.2.1 pc = .ok (.i2f, 1)) (hw : ws G y d Q K rc rs pc lv st h (.i2f)) : V G y d rc rs pc lv st h Q := by
  unfold ws at hw
  dsimp only at hw
  split at hw
  · exact V_i2f hd (hK _ _ _ _ _ _ hw)
  · exact hw.elim
theorem wss_i2d (hK : ∀ rc rs pc lv st h, K rc rs pc lv st h → V G y d rc rs pc lv st h Q) (hd : decode y.2.1 pc = .ok (.i2d, 1)) (hw : ws G y d Q K rc rs pc lv st h (.i2d)) : V G y d rc rs pc lv st h Q := by
  unfold ws at hw
  dsimp only at hw
  split at hw
  · exact V_i2d hd (hK _ _ _ _ _ _ hw)
  · exact hw.elim
theorem wss_f2d (hK : ∀ rc rs pc lv st h, K rc rs pc lv st h → V G y d rc rs pc lv st h Q) (hd : decode y.2.1 pc = .ok (.f2d, 1)) (hw : ws G y d Q K rc rs pc lv st h (.f2d)) : V G y d rc rs pc lv st h Q := by
  unfold ws at hw
  dsimp only at hw
  split at hw
  · exact V_f2d hd hw.1 (hK _ _ _ _ _ _ hw.2)
  · exact hw.elim
theorem wss_dup (hK : ∀ rc rs pc lv st h, K rc rs pc lv st h → V G y d rc rs pc lv st h Q) (hd : decode y.2.1 pc = .ok (.dup, 1)) (hw : ws G y d Q K rc rs pc lv st h (.dup)) : V G y d rc rs pc lv st h Q := by
  unfold ws at hw
  dsimp only at hw
  split at hw
  · exact V_dup hd hw.1 (hK _ _ _ _ _ _ hw.2)
  · exact hw.elim
theorem wss_dup2 (hK : ∀ rc rs pc lv st h, K rc rs pc lv st h → V G y d rc rs pc lv st h Q) (hd : decode y.2.1 pc = .ok (.dup2, 1)) (hw : ws G y d Q K rc rs pc lv st h (.dup2)) : V G y d rc rs pc lv st h Q := by
  unfold ws at hw
  dsimp only at hw
  split at hw
  · exact V_dup2 hd hw.1.1 hw.1.2 (hK _ _ _ _ _ _ hw.2)
  · exact hw.elim
theorem wss_pop (hK : ∀ rc rs pc lv st h, K rc rs pc lv st h → V G y d rc rs pc lv st h Q) (hd : decode y.2.1 pc = .ok (.pop, 1)) (hw : ws G y d Q K rc rs pc lv st h (.pop)) : V G y d rc rs pc lv st h Q := by
  unfold ws at hw
  dsimp only at hw
  split at hw
  · exact V_pop hd hw.1 (hK _ _ _ _ _ _ hw.2)
  · exact hw.elim
theorem wss_if_icmp__eq_off {off : _} (hK : ∀ rc rs pc lv st h, K rc rs pc lv st h → V G y d rc rs pc lv st h Q) (hd : decode y.2.1 pc = .ok (.if_icmp .eq off, 3)) (hw : ws G y d Q K rc rs pc lv st h (.if_icmp .eq off)) : V G y d rc rs pc lv st h Q := by
  unfold ws at hw
  dsimp only at hw
  split at hw
  · exact V_icmp_eq hd hw.1 (fun c9 => hK _ _ _ _ _ _ (hw.2.1 c9)) (fun c9 => hK _ _ _ _ _ _ (hw.2.2 c9))
  · exact hw.elim
theorem wss_if_icmp__ne_off {off : _} (hK : ∀ rc rs pc lv st h, K rc rs pc lv st h → V G y d rc rs pc lv st h Q) (hd : decode y.2.1 pc = .ok (.if_icmp .ne off, 3)) (hw : ws G y d Q K rc rs pc lv st h (.if_icmp .ne off)) : V G y d rc rs pc lv st h Q := by
  unfold ws at hw
  dsimp only at hw
  split at hw
  · exact V_icmp_ne hd hw.1 (fun c9 => hK _ _ _ _ _ _ (hw.2.1 c9)) (fun c9 => hK _ _ _ _ _ _ (hw.2.2 c9))
  · exact hw.elim
theorem wss_if_icmp__lt_off {off : _} (hK : ∀ rc rs pc lv st h, K rc rs pc lv st h → V G y d rc rs pc lv st h Q) (hd : decode y.2.1 pc = .ok (.if_icmp .lt off, 3)) (hw : ws G y d Q K rc rs pc lv st h (.if_icmp .lt off)) : V G y d rc rs pc lv st h Q := by
  unfold ws at hw
  dsimp only at hw
  split at hw
  · exact V_icmp_lt hd hw.1 (fun c9 => hK _ _ _ _ _ _ (hw.2.1 c9)) (fun c9 => hK _ _ _ _ _ _ (hw.2.2 c9))
  · exact hw.elim
theorem wss_if_icmp__ge_off {off : _} (hK : ∀ rc rs pc lv st h, K rc rs pc lv st h → V G y d rc rs pc lv st h Q) (hd : decode y.2.1 pc = .ok (.if_icmp .ge off, 3)) (hw : ws G y d Q K rc rs pc lv st h (.if_icmp .ge off)) : V G y d rc rs pc lv st h Q := by
  unfold ws at hw
  dsimp only at hw
  split at hw
  · exact V_icmp_ge hd hw.1 (fun c9 => hK _ _ _ _ _ _ (hw.2.1 c9)) (fun c9 => hK _ _ _ _ _ _ (hw.2.2 c9))
  · exact hw.elim
theorem wss_if_icmp__gt_off {off : _} (hK : ∀ rc rs pc lv st h, K rc rs pc lv st h → V G y d rc rs pc lv st h Q) (hd : decode y.2.1 pc = .ok (.if_icmp .gt off, 3)) (hw : ws G y d Q K rc rs pc lv st h (.if_icmp .gt off)) : V G y d rc rs pc lv st h Q := by
  unfold ws at hw
  dsimp only at hw
  split at hw
  · exact V_icmp_gt hd hw.1 (fun c9 => hK _ _ _ _ _ _ (hw.2.1 c9)) (fun c9 => hK _ _ _ _ _ _ (hw.2.2 c9))
  · exact hw.elim
theorem wss_if_icmp__le_off {off : _} (hK : ∀ rc rs pc lv st h, K rc rs pc lv st h → V G y d rc rs pc lv st h Q) (hd : decode y.2.1 pc = .ok (.if_icmp .le off, 3)) (hw : ws G y d Q K rc rs pc lv st h (.if_icmp .le off)) : V G y d rc rs pc lv st h Q := by
  unfold ws at hw
  dsimp only at hw
  split at hw
  · exact V_icmp_le hd hw.1 (fun c9 => hK _ _ _ _ _ _ (hw.2.1 c9)) (fun c9 => hK _ _ _ _ _ _ (hw.2.2 c9))
  · exact hw.elim
theorem wss_ifCond__eq_off {off : _} (hK : ∀ rc rs pc lv st h, K rc rs pc lv st h → V G y d rc rs pc lv st h Q) (hd : decode y.2.1 pc = .ok (.ifCond .eq off, 3)) (hw : ws G y d Q K rc rs pc lv st h (.ifCond .eq off)) : V G y d rc rs pc lv st h Q := by
  unfold ws at hw
  dsimp only at hw
  split at hw
  · exact V_if_eq hd hw.1 (fun c9 => hK _ _ _ _ _ _ (hw.2.1 c9)) (fun c9 => hK _ _ _ _ _ _ (hw.2.2 c9))
  · exact hw.elim
theorem wss_ifCond__ne_off {off : _} (hK : ∀ rc rs pc lv st h, K rc rs pc lv st h → V G y d rc rs pc lv st h Q) (hd : decode y.2.1 pc = .ok (.ifCond .ne off, 3)) (hw : ws G y d Q K rc rs pc lv st h (.ifCond .ne off)) : V G y d rc rs pc lv st h Q := by
  unfold ws at hw
  dsimp only at hw
  split at hw
  · exact V_if_ne hd hw.1 (fun c9 => hK _ _ _ _ _ _ (hw.2.1 c9)) (fun c9 => hK _ _ _ _ _ _ (hw.2.2 c9))
  · exact hw.elim
theorem wss_ifCond__lt_off {off : _} (hK : ∀ rc rs pc lv st h, K rc rs pc lv st h → V G y d rc rs pc lv st h Q) (hd : decode y.2.1 pc = .ok (.ifCond .lt off, 3)) (hw : ws G y d Q K rc rs pc lv st h (.ifCond .lt off)) : V G y d rc rs pc lv st h Q := by
  unfold ws at hw
  dsimp only at hw
  split at hw
  · exact V_if_lt hd hw.1 (fun c9 => hK _ _ _ _ _ _ (hw.2.1 c9)) (fun c9 => hK _ _ _ _ _ _ (hw.2.2 c9))
  · exact hw.elim
theorem wss_ifCond__ge_off {off : _} (hK : ∀ rc rs pc lv st h, K rc rs pc lv st h → V G y d rc rs pc lv st h Q) (hd : decode y.2.1 pc = .ok (.ifCond .ge off, 3)) (hw : ws G y d Q K rc rs pc lv st h (.ifCond .ge off)) : V G y d rc rs pc lv st h Q := by
  unfold ws at hw
  dsimp only at hw
  split at hw
  · exact V_if_ge hd hw.1 (fun c9 => hK _ _ _ _ _ _ (hw.2.1 c9)) (fun c9 => hK _ _ _ _ _ _ (hw.2.2 c9))
  · exact hw.elim
theorem wss_ifCond__gt_off {off : _} (hK : ∀ rc rs pc lv st h, K rc rs pc lv st h → V G y d rc rs pc lv st h Q) (hd : decode y.2.1 pc = .ok (.ifCond .gt off, 3)) (hw : ws G y d Q K rc rs pc lv st h (.ifCond .gt off)) : V G y d rc rs pc lv st h Q := by
  unfold ws at hw
  dsimp only at hw
  split at hw
  · exact V_if_gt hd hw.1 (fun c9 => hK _ _ _ _ _ _ (hw.2.1 c9)) (fun c9 => hK _ _ _ _ _ _ (hw.2.2 c9))
  · exact hw.elim
theorem wss_ifCond__le_off {off : _} (hK : ∀ rc rs pc lv st h, K rc rs pc lv st h → V G y d rc rs pc lv st h Q) (hd : decode y.2.1 pc = .ok (.ifCond .le off, 3)) (hw : ws G y d Q K rc rs pc lv st h (.ifCond .le off)) : V G y d rc rs pc lv st h Q := by
  unfold ws at hw
  dsimp only at hw
  split at hw
  · exact V_if_le hd hw.1 (fun c9 => hK _ _ _ _ _ _ (hw.2.1 c9)) (fun c9 => hK _ _ _ _ _ _ (hw.2.2 c9))
  · exact hw.elim
theorem wss_goto_off {off : _} (hK : ∀ rc rs pc lv st h, K rc rs pc lv st h → V G y d rc rs pc lv st h Q) (hd : decode y.2.1 pc = .ok (.goto off, 3)) (hw : ws G y d Q K rc rs pc lv st h (.goto off)) : V G y d rc rs pc lv st h Q := by
  unfold ws at hw
  dsimp only at hw
  exact V_goto hd hw.1 (hK _ _ _ _ _ _ hw.2)
theorem wss_getfield_idx {idx : _} (hK : ∀ rc rs pc lv st h, K rc rs pc lv st h → V G y d rc rs pc lv st h Q) (hd : decode y.2.1 pc = .ok (.getfield idx, 3)) (hw : ws G y d Q K rc rs pc lv st h (.getfield idx)) : V G y d rc rs pc lv st h Q := by
  unfold ws at hw
  dsimp only at hw
  split at hw
  · rename_i ci k tc9 fin9 a r he
    obtain ⟨fs, v, h1, h2, h3⟩ := ws_get_ok hw
    rcases FT_ok he with ⟨g1, g2, -⟩ | ⟨g1, g2⟩
    · rw [if_pos g1] at h1
      exact V_getfield hd g2 h1 h2 (hK _ _ _ _ _ _ h3)
    · rw [if_neg (Nat.not_lt.mpr g1)] at h1
      exact V_getfieldS hd g2 h1 h2 (hK _ _ _ _ _ _ h3)
  · exact hw.elim
theorem wss_putfield_idx {idx : _} (hK : ∀ rc rs pc lv st h, K rc rs pc lv st h → V G y d rc rs pc lv st h Q) (hd : decode y.2.1 pc = .ok (.putfield idx, 3)) (hw : ws G y d Q K rc rs pc lv st h (.putfield idx)) : V G y d rc rs pc lv st h Q := by
  unfold ws at hw
  dsimp only at hw
  split at hw
  · rename_i ci k tc fin v a r he
    obtain ⟨h1, h2, h3, h4, h5⟩ := hw
    obtain ⟨fs, g1, g2, g3⟩ := ws_put_ok h5
    rcases FT_ok he with ⟨q1, q2, q3⟩ | ⟨q1, q2⟩
    · cases fin with
      | false => exact V_putfield hd (q3 h1) g1 h2 g2 (hK _ _ _ _ _ _ g3)
      | true => exact V_putfinal hd (q3 h1) (h3 rfl) g1 h2 g2 (hK _ _ _ _ _ _ g3)
    · exact absurd h4 (Nat.not_lt.mpr q1)
  · exact hw.elim
theorem wss_iaload (hK : ∀ rc rs pc lv st h, K rc rs pc lv st h → V G y d rc rs pc lv st h Q) (hd : decode y.2.1 pc = .ok (.iaload, 1)) (hw : ws G y d Q K rc rs pc lv st h (.iaload)) : V G y d rc rs pc lv st h Q := by
  unfold ws at hw
  dsimp only at hw
  split at hw
  · rename_i i a r n f he
    rcases cellOf_or he with he | he
    · exact V_iaload hd he hw.1 (hK _ _ _ _ _ _ hw.2)
    · exact V_ialoadS hd he hw.1 (hK _ _ _ _ _ _ hw.2)
  · exact hw.elim
theorem wss_caload (hK : ∀ rc rs pc lv st h, K rc rs pc lv st h → V G y d rc rs pc lv st h Q) (hd : decode y.2.1 pc = .ok (.caload, 1)) (hw : ws G y d Q K rc rs pc lv st h (.caload)) : V G y d rc rs pc lv st h Q := by
  unfold ws at hw
  dsimp only at hw
  split at hw
  · rename_i i a r n f he
    exact V_caload hd he hw.1 (hK _ _ _ _ _ _ hw.2)
  · exact hw.elim
theorem wss_laload (hK : ∀ rc rs pc lv st h, K rc rs pc lv st h → V G y d rc rs pc lv st h Q) (hd : decode y.2.1 pc = .ok (.laload, 1)) (hw : ws G y d Q K rc rs pc lv st h (.laload)) : V G y d rc rs pc lv st h Q := by
  unfold ws at hw
  dsimp only at hw
  split at hw
  · rename_i i a r n f he
    exact V_laload hd he hw.1 (hK _ _ _ _ _ _ hw.2)
  · exact hw.elim
theorem wss_daload (hK : ∀ rc rs pc lv st h, K rc rs pc lv st h → V G y d rc rs pc lv st h Q) (hd : decode y.2.1 pc = .ok (.daload, 1)) (hw : ws G y d Q K rc rs pc lv st h (.daload)) : V G y d rc rs pc lv st h Q := by
  unfold ws at hw
  dsimp only at hw
  split at hw
  · rename_i i a r n f he
    exact V_daload hd he hw.1 (hK _ _ _ _ _ _ hw.2)
  · exact hw.elim
theorem wss_baload (hK : ∀ rc rs pc lv st h, K rc rs pc lv st h → V G y d rc rs pc lv st h Q) (hd : decode y.2.1 pc = .ok (.baload, 1)) (hw : ws G y d Q K rc rs pc lv st h (.baload)) : V G y d rc rs pc lv st h Q := by
  unfold ws at hw
  dsimp only at hw
  split at hw
  · rename_i i a r n f he
    rcases cellOf_or he with he | he
    · exact V_baload hd he hw.1 (hK _ _ _ _ _ _ hw.2)
    · exact V_baloadS hd he hw.1 (hK _ _ _ _ _ _ hw.2)
  · exact hw.elim
theorem wss_aaload (hK : ∀ rc rs pc lv st h, K rc rs pc lv st h → V G y d rc rs pc lv st h Q) (hd : decode y.2.1 pc = .ok (.aaload, 1)) (hw : ws G y d Q K rc rs pc lv st h (.aaload)) : V G y d rc rs pc lv st h Q := by
  unfold ws at hw
  dsimp only at hw
  split at hw
  · rename_i i a r t n f he
    obtain ⟨h1, h2, h3⟩ := hw
    rcases cellOf_or he with he | he
    · rcases h2 with rfl | rfl | rfl | h2
      · exact V_aaload5 hd he h1 (hK _ _ _ _ _ _ h3)
      · exact V_aaload6 hd he h1 (hK _ _ _ _ _ _ h3)
      · exact V_aaload7 hd he h1 (hK _ _ _ _ _ _ h3)
      · rw [he] at h2; cases h2
    · exact V_aaloadS hd he h1 (hK _ _ _ _ _ _ h3)
  · exact hw.elim
theorem wss_iastore (hK : ∀ rc rs pc lv st h, K rc rs pc lv st h → V G y d rc rs pc lv st h Q) (hd : decode y.2.1 pc = .ok (.iastore, 1)) (hw : ws G y d Q K rc rs pc lv st h (.iastore)) : V G y d rc rs pc lv st h Q := by
  unfold ws at hw
  dsimp only at hw
  split at hw
  · rename_i x i a r n f he
    exact V_iastore hd he hw.1 (hK _ _ _ _ _ _ hw.2)
  · exact hw.elim
theorem wss_castore (hK : ∀ rc rs pc lv st h, K rc rs pc lv st h → V G y d rc rs pc lv st h Q) (hd : decode y.2.1 pc = .ok (.castore, 1)) (hw : ws G y d Q K rc rs pc lv st h (.castore)) : V G y d rc rs pc lv st h Q := by
  unfold ws at hw
  dsimp only at hw
  split at hw
  · rename_i x i a r n f he
    exact V_castore hd he hw.1 (hK _ _ _ _ _ _ hw.2)
  · exact hw.elim
theorem wss_bastore (hK : ∀ rc rs pc lv st h, K rc rs pc lv st h → V G y d rc rs pc lv st h Q) (hd : decode y.2.1 pc = .ok (.bastore, 1)) (hw : ws G y d Q K rc rs pc lv st h (.bastore)) : V G y d rc rs pc lv st h Q := by
  unfold ws at hw
  dsimp only at hw
  split at hw
  · rename_i x i a r n f he
    exact V_bastore hd he hw.1 (hK _ _ _ _ _ _ hw.2)
  · exact hw.elim
theorem wss_lastore (hK : ∀ rc rs pc lv st h, K rc rs pc lv st h → V G y d rc rs pc lv st h Q) (hd : decode y.2.1 pc = .ok (.lastore, 1)) (hw : ws G y d Q K rc rs pc lv st h (.lastore)) : V G y d rc rs pc lv st h Q := by
  unfold ws at hw
  dsimp only at hw
  split at hw
  · rename_i x i a r n f he
    exact V_lastore hd he hw.1 (hK _ _ _ _ _ _ hw.2)
  · exact hw.elim
theorem wss_dastore (hK : ∀ rc rs pc lv st h, K rc rs pc lv st h → V G y d rc rs pc lv st h Q) (hd : decode y.2.1 pc = .ok (.dastore, 1)) (hw : ws G y d Q K rc rs pc lv st h (.dastore)) : V G y d rc rs pc lv st h Q := by
  unfold ws at hw
  dsimp only at hw
  split at hw
  · rename_i x i a r n f he
    exact V_dastore hd he hw.1 (hK _ _ _ _ _ _ hw.2)
  · exact hw.elim
theorem wss_aastore (hK : ∀ rc rs pc lv st h, K rc rs pc lv st h → V G y d rc rs pc lv st h Q) (hd : decode y.2.1 pc = .ok (.aastore, 1)) (hw : ws G y d Q K rc rs pc lv st h (.aastore)) : V G y d rc rs pc lv st h Q := by
  unfold ws at hw
  dsimp only at hw
  split at hw
  · rename_i v i a r t n f ci vs he hv
    obtain ⟨h1, h2, h3⟩ := hw
    rcases h1 with ⟨rfl, rfl⟩ | ⟨rfl, rfl⟩ | ⟨rfl, rfl⟩
    · exact V_aastore (r := (RX4, TX4, 5)) hd he (by decide) hv rfl rfl h2 (hK _ _ _ _ _ _ h3)
    · exact V_aastore (r := (RX6, TX6, 4)) hd he (by decide) hv rfl rfl h2 (hK _ _ _ _ _ _ h3)
    · exact V_aastore (r := (RX1, TX1, 5)) hd he (by decide) hv rfl rfl h2 (hK _ _ _ _ _ _ h3)
  · exact hw.elim
theorem wss_arraylength (hK : ∀ rc rs pc lv st h, K rc rs pc lv st h → V G y d rc rs pc lv st h Q) (hd : decode y.2.1 pc = .ok (.arraylength, 1)) (hw : ws G y d Q K rc rs pc lv st h (.arraylength)) : V G y d rc rs pc lv st h Q := by
  unfold ws at hw
  dsimp only at hw
  split at hw
  · rename_i a r t n f he
    rcases cellOf_or he with he | he
    · rcases hw.1 with h1 | h1
      · exact V_alen hd he h1 (hK _ _ _ _ _ _ hw.2)
      · rw [he] at h1; cases h1
    · exact V_alenS hd he (hK _ _ _ _ _ _ hw.2)
  · exact hw.elim
theorem wss_newarray_a9 {a9 : _} (hK : ∀ rc rs pc lv st h, K rc rs pc lv st h → V G y d rc rs pc lv st h Q) (hd : decode y.2.1 pc = .ok (.newarray a9, 2)) (hw : ws G y d Q K rc rs pc lv st h (.newarray a9)) : V G y d rc rs pc lv st h Q := by
  unfold ws at hw
  dsimp only at hw
  split at hw
  · rename_i n r t he
    obtain ⟨k, rfl, h1, h2, h3, h4⟩ := hw
    obtain ⟨g1, g2, g3⟩ := atNo_ok he
    exact V_newarray hd g1 g2 g3 (zrow_ok g1) h1 h2 h3 (hK _ _ _ _ _ _ h4)
  · exact hw.elim
theorem wss_anewarray_idx {idx : _} (hK : ∀ rc rs pc lv st h, K rc rs pc lv st h → V G y d rc rs pc lv st h Q) (hd : decode y.2.1 pc = .ok (.anewarray idx, 3)) (hw : ws G y d Q K rc rs pc lv st h (.anewarray idx)) : V G y d rc rs pc lv st h Q := by
  unfold ws at hw
  dsimp only at hw
  split at hw
  · rename_i n r t he
    obtain ⟨k, rfl, h1, h2, h3, h4⟩ := hw
    obtain ⟨C, g1, g2, g3, g4⟩ := AN_ok he
    exact V_anewarray hd g1 g2 g3 (fun s args hfv => va_AO.use (hfv.2.2.2.2.2.1.2.2.2.2.2 _ g4)) h1 h2 h3 (hK _ _ _ _ _ _ h4)
  · exact hw.elim
theorem wss_new_idx {idx : _} (hK : ∀ rc rs pc lv st h, K rc rs pc lv st h → V G y d rc rs pc lv st h Q) (hd : decode y.2.1 pc = .ok (.new idx, 3)) (hw : ws G y d Q K rc rs pc lv st h (.new idx)) : V G y d rc rs pc lv st h Q := by
  unfold ws at hw
  dsimp only at hw
  split at hw
  · rename_i ci fs N he
    exact V_new hd (NT_ok he) hw.1 hw.2.1 (hK _ _ _ _ _ _ hw.2.2)
  · rename_i E ic hn he
    exact ws_throw_ok hd (XL_ok he).1 (XL_ok he).2 hw
  · exact hw.elim
theorem wss_getstatic_idx {idx : _} (hK : ∀ rc rs pc lv st h, K rc rs pc lv st h → V G y d rc rs pc lv st h Q) (hd : decode y.2.1 pc = .ok (.getstatic idx, 3)) (hw : ws G y d Q K rc rs pc lv st h (.getstatic idx)) : V G y d rc rs pc lv st h Q := by
  unfold ws at hw
  dsimp only at hw
  split at hw
  · rename_i v he; exact V_getstatic hd he (hK _ _ _ _ _ _ hw)
  · exact hw.elim
theorem wss_ldc_idx {idx : _} (hK : ∀ rc rs pc lv st h, K rc rs pc lv st h → V G y d rc rs pc lv st h Q) (hd : decode y.2.1 pc = .ok (.ldc idx, 2)) (hw : ws G y d Q K rc rs pc lv st h (.ldc idx)) : V G y d rc rs pc lv st h Q := by
  unfold ws at hw
  dsimp only at hw
  split at hw
  · rename_i v he; exact V_ldc hd (CT_ok he) (hK _ _ _ _ _ _ hw)
  · rename_i q hn he; exact V_ldcS hd he (hK _ _ _ _ _ _ hw)
  · exact hw.elim
theorem wss_invokevirtual_idx {idx : _} (hK : ∀ rc rs pc lv st h, K rc rs pc lv st h → V G y d rc rs pc lv st h Q) (hd : decode y.2.1 pc = .ok (.invokevirtual idx, 3)) (hw : ws G y d Q K rc rs pc lv st h (.invokevirtual idx)) : V G y d rc rs pc lv st h Q := by
  unfold ws at hw
  dsimp only at hw
  exact ws_call_ok hK (fun k hk => by rcases hk with rfl | rfl | rfl <;> exact hd) (fun k hk => by omega) hw
theorem wss_invokespecial_idx {idx : _} (hK : ∀ rc rs pc lv st h, K rc rs pc lv st h → V G y d rc rs pc lv st h Q) (hd : decode y.2.1 pc = .ok (.invokespecial idx, 3)) (hw : ws G y d Q K rc rs pc lv st h (.invokespecial idx)) : V G y d rc rs pc lv st h Q := by
  unfold ws at hw
  dsimp only at hw
  rcases hw with ⟨h1, h2⟩ | ⟨h1, h2⟩
  · obtain ⟨a, r, rfl, h3, h4, h5⟩ := ws_oi_ok h2
    exact V_objInit hd (OI_ok h1) gOI1 gOI2 h3 h4 (hK _ _ _ _ _ _ h5)
  · exact ws_call_ok hK (fun k hk => by rcases hk with rfl | rfl | rfl <;> exact hd) (fun k hk => by omega) h2
theorem wss_invokestatic_idx {idx : _} (hK : ∀ rc rs pc lv st h, K rc rs pc lv st h → V G y d rc rs pc lv st h Q) (hd : decode y.2.1 pc = .ok (.invokestatic idx, 3)) (hw : ws G y d Q K rc rs pc lv st h (.invokestatic idx)) : V G y d rc rs pc lv st h Q := by
  unfold ws at hw
  dsimp only at hw
  rcases hw with ⟨h1, h2⟩ | ⟨h1, h2⟩ | ⟨h1, h2⟩ | ⟨h1, h2⟩
  · obtain ⟨n, dp, a, sp, a0, r, t, n0, n1, f, g, rfl, k1, k2, k3, k4, k5, k6, k7, k8, k9, k10, k11, k12⟩ := ws_ac_ok h2
    exact V_copy hd (AC_ok h1) gAC1 gAC2 gAC3 k1 k2 k3 k4 k5 k6 k7 k8 k9 k10 k11 (hK _ _ _ _ _ _ k12)
  · obtain ⟨a, b, r, rfl, h3, h4, h5⟩ := ws_mm_ok h2
    exact V_min hd (MN_ok h1) gMN1 gMM gMN2 h3 h4 (hK _ _ _ _ _ _ h5)
  · obtain ⟨a, b, r, rfl, h3, h4, h5⟩ := ws_mm_ok h2
    exact V_max hd (MX_ok h1) gMX1 gMM gMX2 h3 h4 (hK _ _ _ _ _ _ h5)
  · exact ws_callS_ok hK hd h2
theorem wss_ireturn (hK : ∀ rc rs pc lv st h, K rc rs pc lv st h → V G y d rc rs pc lv st h Q) (hd : decode y.2.1 pc = .ok (.ireturn, 1)) (hw : ws G y d Q K rc rs pc lv st h (.ireturn)) : V G y d rc rs pc lv st h Q := by
  unfold ws at hw
  dsimp only at hw
  split at hw
  · rename_i x ty he; exact V_ireturn hd he (retok_ok hw.1) hw.2
  · exact hw.elim
theorem wss_return (hK : ∀ rc rs pc lv st h, K rc rs pc lv st h → V G y d rc rs pc lv st h Q) (hd : decode y.2.1 pc = .ok (.return_, 1)) (hw : ws G y d Q K rc rs pc lv st h (.return_)) : V G y d rc rs pc lv st h Q := by
  unfold ws at hw
  dsimp only at hw
  split at hw
  · rename_i he; exact V_vreturn hd he hw
  · exact hw.elim
theorem wss_lreturn (hK : ∀ rc rs pc lv st h, K rc rs pc lv st h → V G y d rc rs pc lv st h Q) (hd : decode y.2.1 pc = .ok (.lreturn, 1)) (hw : ws G y d Q K rc rs pc lv st h (.lreturn)) : V G y d rc rs pc lv st h Q := by
  unfold ws at hw
  dsimp only at hw
  split at hw
  · rename_i x he; exact V_lreturn hd he hw
  · exact hw.elim
theorem wss_freturn (hK : ∀ rc rs pc lv st h, K rc rs pc lv st h → V G y d rc rs pc lv st h Q) (hd : decode y.2.1 pc = .ok (.freturn, 1)) (hw : ws G y d Q K rc rs pc lv st h (.freturn)) : V G y d rc rs pc lv st h Q := by
  unfold ws at hw
  dsimp only at hw
  split at hw
  · rename_i x he; exact V_freturn hd he hw
  · exact hw.elim
theorem wss_dreturn (hK : ∀ rc rs pc lv st h, K rc rs pc lv st h → V G y d rc rs pc lv st h Q) (hd : decode y.2.1 pc = .ok (.dreturn, 1)) (hw : ws G y d Q K rc rs pc lv st h (.dreturn)) : V G y d rc rs pc lv st h Q := by
  unfold ws at hw
  dsimp only at hw
  split at hw
  · rename_i x he; exact V_dreturn hd he hw
  · exact hw.elim
theorem wss_areturn (hK : ∀ rc rs pc lv st h, K rc rs pc lv st h → V G y d rc rs pc lv st h Q) (hd : decode y.2.1 pc = .ok (.areturn, 1)) (hw : ws G y d Q K rc rs pc lv st h (.areturn)) : V G y d rc rs pc lv st h Q := by
  unfold ws at hw
  dsimp only at hw
  split at hw
  · rename_i x ty he; exact V_areturn hd he hw.1 hw.2
  · exact hw.elim
end WSS
def ilen (ins : Instr) : Nat := match ins with
  | .bipush _ => 2
  | .sipush _ => 3
  | .iload _ => 2
  | .istore _ => 2
  | .lload _ => 2
  | .lstore _ => 2
  | .fload _ => 2
  | .fstore _ => 2
  | .dload _ => 2
  | .dstore _ => 2
  | .aload _ => 2
  | .astore _ => 2
  | .iinc _ _ => 3
  | .if_icmp _ _ => 3
  | .ifCond _ _ => 3
  | .goto _ => 3
  | .getfield _ => 3
  | .putfield _ => 3
  | .newarray _ => 2
  | .anewarray _ => 3
  | .new _ => 3
  | .getstatic _ => 3
  | .ldc _ => 2
  | .invokevirtual _ => 3
  | .invokespecial _ => 3
  | .invokestatic _ => 3
  | _ => 1
theorem ws_ok {G : GT} {y : MD} {d rc rs pc : Nat} {lv : LL} {st : List Value} {h : Hp} {Q : RT → Hp → Prop} {K : KT} (hK : ∀ rc rs pc lv st h, K rc rs pc lv st h → V G y d rc rs pc lv st h Q) {ins : Instr} (hd : decode y.2.1 pc = .ok (ins, ilen ins)) (hw : ws G y d Q K rc rs pc lv st h ins) : V G y d rc rs pc lv st h Q := by
  cases ins with
  | iconst x0 => exact wss_iconst_n hK hd hw
  | bipush x0 => exact wss_bipush_n hK hd hw
  | sipush x0 => exact wss_sipush_n hK hd hw
  | lconst x0 => exact wss_lconst_n hK hd hw
  | aconst_null => exact wss_aconst_null hK hd hw
  | fconst x0 => exact wss_fconst_n hK hd hw
  | dconst x0 => exact wss_dconst_n hK hd hw
  | iload_n x0 => exact wss_iload_n_i hK hd hw
  | iload x0 => exact wss_iload_i hK hd hw
  | istore_n x0 => exact wss_istore_n_i hK hd hw
  | istore x0 => exact wss_istore_i hK hd hw
  | lload_n x0 => exact wss_lload_n_i hK hd hw
  | lload x0 => exact wss_lload_i hK hd hw
  | lstore_n x0 => exact wss_lstore_n_i hK hd hw
  | lstore x0 => exact wss_lstore_i hK hd hw
  | fload_n x0 => exact wss_fload_n_i hK hd hw
  | fload x0 => exact wss_fload_i hK hd hw
  | fstore_n x0 => exact wss_fstore_n_i hK hd hw
  | fstore x0 => exact wss_fstore_i hK hd hw
  | dload_n x0 => exact wss_dload_n_i hK hd hw
  | dload x0 => exact wss_dload_i hK hd hw
  | dstore_n x0 => exact wss_dstore_n_i hK hd hw
  | dstore x0 => exact wss_dstore_i hK hd hw
  | aload_n x0 => exact wss_aload_n_i hK hd hw
  | aload x0 => exact wss_aload_i hK hd hw
  | astore_n x0 => exact wss_astore_n_i hK hd hw
  | astore x0 => exact wss_astore_i hK hd hw
  | iinc x0 x1 => exact wss_iinc_i_n hK hd hw
  | iadd => exact wss_iadd hK hd hw
  | isub => exact wss_isub hK hd hw
  | imul => exact wss_imul hK hd hw
  | iand => exact wss_iand hK hd hw
  | ior => exact wss_ior hK hd hw
  | ixor => exact wss_ixor hK hd hw
  | idiv => exact wss_idiv hK hd hw
  | irem => exact wss_irem hK hd hw
  | ishl => exact wss_ishl hK hd hw
  | ishr => exact wss_ishr hK hd hw
  | ladd => exact wss_ladd hK hd hw
  | lsub => exact wss_lsub hK hd hw
  | lcmp => exact wss_lcmp hK hd hw
  | fdiv => exact wss_fdiv hK hd hw
  | ddiv => exact wss_ddiv hK hd hw
  | fcmp x0 => exact wss_fcmp_op hK hd hw
  | dcmp x0 => exact wss_dcmp_op hK hd hw
  | ineg => exact wss_ineg hK hd hw
  | i2l => exact wss_i2l hK hd hw
  | l2i => exact wss_l2i hK hd hw
  | i2c => exact wss_i2c hK hd hw
  | i2b => exact wss_i2b hK hd hw
  | i2f => exact wss_i2f hK hd hw
  | i2d => exact wss_i2d hK hd hw
  | f2d => exact wss_f2d hK hd hw
  | dup => exact wss_dup hK hd hw
  | dup2 => exact wss_dup2 hK hd hw
  | pop => exact wss_pop hK hd hw
  | if_icmp c9 x9 => cases c9 <;> first | exact wss_if_icmp__eq_off hK hd hw | exact wss_if_icmp__ne_off hK hd hw | exact wss_if_icmp__lt_off hK hd hw | exact wss_if_icmp__ge_off hK hd hw | exact wss_if_icmp__gt_off hK hd hw | exact wss_if_icmp__le_off hK hd hw
  | ifCond c9 x9 => cases c9 <;> first | exact wss_ifCond__eq_off hK hd hw | exact wss_ifCond__ne_off hK hd hw | exact wss_ifCond__lt_off hK hd hw | exact wss_ifCond__ge_off hK hd hw | exact wss_ifCond__gt_off hK hd hw | exact wss_ifCond__le_off hK hd hw
  | goto x0 => exact wss_goto_off hK hd hw
  | getfield x0 => exact wss_getfield_idx hK hd hw
  | putfield x0 => exact wss_putfield_idx hK hd hw
  | iaload => exact wss_iaload hK hd hw
  | caload => exact wss_caload hK hd hw
  | laload => exact wss_laload hK hd hw
  | daload => exact wss_daload hK hd hw
  | baload => exact wss_baload hK hd hw
  | aaload => exact wss_aaload hK hd hw
  | iastore => exact wss_iastore hK hd hw
  | castore => exact wss_castore hK hd hw
  | bastore => exact wss_bastore hK hd hw
  | lastore => exact wss_lastore hK hd hw
  | dastore => exact wss_dastore hK hd hw
  | aastore => exact wss_aastore hK hd hw
  | arraylength => exact wss_arraylength hK hd hw
  | newarray x0 => exact wss_newarray_a9 hK hd hw
  | anewarray x0 => exact wss_anewarray_idx hK hd hw
  | new x0 => exact wss_new_idx hK hd hw
  | getstatic x0 => exact wss_getstatic_idx hK hd hw
  | ldc x0 => exact wss_ldc_idx hK hd hw
  | invokevirtual x0 => exact wss_invokevirtual_idx hK hd hw
  | invokespecial x0 => exact wss_invokespecial_idx hK hd hw
  | invokestatic x0 => exact wss_invokestatic_idx hK hd hw
  | ireturn => exact wss_ireturn hK hd hw
  | return_ => exact wss_return hK hd hw
  | lreturn => exact wss_lreturn hK hd hw
  | freturn => exact wss_freturn hK hd hw
  | dreturn => exact wss_dreturn hK hd hw
  | areturn => exact wss_areturn hK hd hw
  | _ => exact hw.elim
def stp : List Nat → Nat → Bool
  | [], _ => false
  | a :: l, n => if n = a then true else stp l n
def wstep (G : GT) (y : MD) (d : Nat) (Q : RT → Hp → Prop) (K : KT) : KT := fun rc rs pc lv st h => match decode y.2.1 pc with
  | .ok (ins, ln) => ln = ilen ins ∧ ws G y d Q K rc rs pc lv st h ins
  | .error _ => False
/-- walk on, at most k steps, till a place of S -/
def wq (G : GT) (y : MD) (d : Nat) (Q : RT → Hp → Prop) (S : List Nat) : Nat → KT
  | 0 => fun rc rs pc lv st h => V G y d rc rs pc lv st h Q
  | k + 1 => fun rc rs pc lv st h => if stp S pc = true then V G y d rc rs pc lv st h Q else wstep G y d Q (wq G y d Q S k) rc rs pc lv st h
theorem wstep_ok {G : GT} {y : MD} {d rc rs pc : Nat} {lv : LL} {st : List Value} {h : Hp} {Q : RT → Hp → Prop} {K : KT} (hK : ∀ rc rs pc lv st h, K rc rs pc lv st h → V G y d rc rs pc lv st h Q) (hw : wstep G y d Q K rc rs pc lv st h) : V G y d rc rs pc lv st h Q := by
  unfold wstep at hw
  split at hw
  · rename_i ins ln he
    obtain ⟨rfl, hw⟩ := hw
    exact ws_ok hK he hw
  · exact hw.elim
theorem wq_ok {G : GT} {y : MD} {d : Nat} {Q : RT → Hp → Prop} {S : List Nat} : ∀ (k : Nat) (rc rs pc : Nat) (lv : LL) (st : List Value) (h : Hp), wq G y d Q S k rc rs pc lv st h → V G y d rc rs pc lv st h Q
  | 0, _, _, _, _, _, _, hw => hw
  | k + 1, rc, rs, pc, lv, st, h, hw => by
    have hw' : if stp S pc = true then V G y d rc rs pc lv st h Q else wstep G y d Q (wq G y d Q S k) rc rs pc lv st h := hw
    by_cases hs : stp S pc = true
    · rw [if_pos hs] at hw'; exact hw'
    · rw [if_neg hs] at hw'
      exact wstep_ok (wq_ok k) hw'
theorem wq_s {G : GT} {y : MD} {d : Nat} {Q : RT → Hp → Prop} {S : List Nat} (k rc rs pc : Nat) (lv : LL) (st : List Value) (h : Hp) : wq G y d Q S (k + 1) rc rs pc lv st h = if stp S pc = true then V G y d rc rs pc lv st h Q else wstep G y d Q (wq G y d Q S k) rc rs pc lv st h := rfl
theorem wq_0 {G : GT} {y : MD} {d : Nat} {Q : RT → Hp → Prop} {S : List Nat} (rc rs pc : Nat) (lv : LL) (st : List Value) (h : Hp) : wq G y d Q S 0 rc rs pc lv st h = V G y d rc rs pc lv st h Q := rfl
/-- walk from here: at least one step, then on till a place of S -/
theorem V_walk {G : GT} {y : MD} {d rc rs pc : Nat} {lv : LL} {st : List Value} {h : Hp} {Q : RT → Hp → Prop} (S : List Nat) (k : Nat) (hw : wstep G y d Q (wq G y d Q S k) rc rs pc lv st h) : V G y d rc rs pc lv st h Q := wstep_ok (wq_ok k) hw
