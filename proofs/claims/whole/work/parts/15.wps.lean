section WSS
variable {G : GT} {y : MD} {d rc rs pc : Nat} {lv : LL} {st : List Value} {h : Hp} {Q : RT → Hp → Prop}
theorem wss_iconst_n {n : _} (hd : decode y.2.1 pc = .ok (.iconst n, 1)) (hw : ws G y d Q (fun rc rs pc lv st h => V G y d rc rs pc lv st h Q) rc rs pc lv st h (.iconst n)) : V G y d rc rs pc lv st h Q := by
  unfold ws at hw
  dsimp only at hw
  exact V_iconst hd hw
theorem wss_bipush_n {n : _} (hd : decode y.2.1 pc = .ok (.bipush n, 2)) (hw : ws G y d Q (fun rc rs pc lv st h => V G y d rc rs pc lv st h Q) rc rs pc lv st h (.bipush n)) : V G y d rc rs pc lv st h Q := by
  unfold ws at hw
  dsimp only at hw
  exact V_bipush hd hw
theorem wss_sipush_n {n : _} (hd : decode y.2.1 pc = .ok (.sipush n, 3)) (hw : ws G y d Q (fun rc rs pc lv st h => V G y d rc rs pc lv st h Q) rc rs pc lv st h (.sipush n)) : V G y d rc rs pc lv st h Q := by
  unfold ws at hw
  dsimp only at hw
  exact V_sipush hd hw
theorem wss_lconst_n {n : _} (hd : decode y.2.1 pc = .ok (.lconst n, 1)) (hw : ws G y d Q (fun rc rs pc lv st h => V G y d rc rs pc lv st h Q) rc rs pc lv st h (.lconst n)) : V G y d rc rs pc lv st h Q := by
  unfold ws at hw
  dsimp only at hw
  exact V_lconst hd hw
theorem wss_aconst_null (hd : decode y.2.1 pc = .ok (.aconst_null, 1)) (hw : ws G y d Q (fun rc rs pc lv st h => V G y d rc rs pc lv st h Q) rc rs pc lv st h (.aconst_null)) : V G y d rc rs pc lv st h Q := by
  unfold ws at hw
  dsimp only at hw
  exact V_null hd hw
theorem wss_fconst_n {n : _} (hd : decode y.2.1 pc = .ok (.fconst n, 1)) (hw : ws G y d Q (fun rc rs pc lv st h => V G y d rc rs pc lv st h Q) rc rs pc lv st h (.fconst n)) : V G y d rc rs pc lv st h Q := by
  unfold ws at hw
  dsimp only at hw
  obtain ⟨rfl, hw⟩ := hw; exact V_fconst0 hd hw
theorem wss_dconst_n {n : _} (hd : decode y.2.1 pc = .ok (.dconst n, 1)) (hw : ws G y d Q (fun rc rs pc lv st h => V G y d rc rs pc lv st h Q) rc rs pc lv st h (.dconst n)) : V G y d rc rs pc lv st h Q := by
  unfold ws at hw
  dsimp only at hw
  obtain ⟨rfl, hw⟩ := hw; exact V_dconst0 hd hw
theorem wss_iload_n_i {i : _} (hd : decode y.2.1 pc = .ok (.iload_n i, 1)) (hw : ws G y d Q (fun rc rs pc lv st h => V G y d rc rs pc lv st h Q) rc rs pc lv st h (.iload_n i)) : V G y d rc rs pc lv st h Q := by
  unfold ws at hw
  dsimp only at hw
  split at hw
  · rename_i x9 he; exact V_iload_n hd he hw
  · exact hw.elim
theorem wss_iload_i {i : _} (hd : decode y.2.1 pc = .ok (.iload i, 2)) (hw : ws G y d Q (fun rc rs pc lv st h => V G y d rc rs pc lv st h Q) rc rs pc lv st h (.iload i)) : V G y d rc rs pc lv st h Q := by
  unfold ws at hw
  dsimp only at hw
  split at hw
  · rename_i x9 he; exact V_iload hd he hw
  · exact hw.elim
theorem wss_istore_n_i {i : _} (hd : decode y.2.1 pc = .ok (.istore_n i, 1)) (hw : ws G y d Q (fun rc rs pc lv st h => V G y d rc rs pc lv st h Q) rc rs pc lv st h (.istore_n i)) : V G y d rc rs pc lv st h Q := by
  unfold ws at hw
  dsimp only at hw
  split at hw
  · exact V_istore_n hd hw.1 hw.2
  · exact hw.elim
theorem wss_istore_i {i : _} (hd : decode y.2.1 pc = .ok (.istore i, 2)) (hw : ws G y d Q (fun rc rs pc lv st h => V G y d rc rs pc lv st h Q) rc rs pc lv st h (.istore i)) : V G y d rc rs pc lv st h Q := by
  unfold ws at hw
  dsimp only at hw
  split at hw
  · exact V_istore hd hw.1 hw.2
  · exact hw.elim
theorem wss_lload_n_i {i : _} (hd : decode y.2.1 pc = .ok (.lload_n i, 1)) (hw : ws G y d Q (fun rc rs pc lv st h => V G y d rc rs pc lv st h Q) rc rs pc lv st h (.lload_n i)) : V G y d rc rs pc lv st h Q := by
  unfold ws at hw
  dsimp only at hw
  split at hw
  · rename_i x9 he; exact V_lload_n hd he hw
  · exact hw.elim
theorem wss_lload_i {i : _} (hd : decode y.2.1 pc = .ok (.lload i, 2)) (hw : ws G y d Q (fun rc rs pc lv st h => V G y d rc rs pc lv st h Q) rc rs pc lv st h (.lload i)) : V G y d rc rs pc lv st h Q := by
  unfold ws at hw
  dsimp only at hw
  split at hw
  · rename_i x9 he; exact V_lload hd he hw
  · exact hw.elim
theorem wss_lstore_n_i {i : _} (hd : decode y.2.1 pc = .ok (.lstore_n i, 1)) (hw : ws G y d Q (fun rc rs pc lv st h => V G y d rc rs pc lv st h Q) rc rs pc lv st h (.lstore_n i)) : V G y d rc rs pc lv st h Q := by
  unfold ws at hw
  dsimp only at hw
  split at hw
  · exact V_lstore_n hd hw.1 hw.2
  · exact hw.elim
theorem wss_lstore_i {i : _} (hd : decode y.2.1 pc = .ok (.lstore i, 2)) (hw : ws G y d Q (fun rc rs pc lv st h => V G y d rc rs pc lv st h Q) rc rs pc lv st h (.lstore i)) : V G y d rc rs pc lv st h Q := by
  unfold ws at hw
  dsimp only at hw
  split at hw
  · exact V_lstore hd hw.1 hw.2
  · exact hw.elim
theorem wss_fload_n_i {i : _} (hd : decode y.2.1 pc = .ok (.fload_n i, 1)) (hw : ws G y d Q (fun rc rs pc lv st h => V G y d rc rs pc lv st h Q) rc rs pc lv st h (.fload_n i)) : V G y d rc rs pc lv st h Q := by
  unfold ws at hw
  dsimp only at hw
  split at hw
  · rename_i x9 he; exact V_fload_n hd he hw
  · exact hw.elim
theorem wss_fload_i {i : _} (hd : decode y.2.1 pc = .ok (.fload i, 2)) (hw : ws G y d Q (fun rc rs pc lv st h => V G y d rc rs pc lv st h Q) rc rs pc lv st h (.fload i)) : V G y d rc rs pc lv st h Q := by
  unfold ws at hw
  dsimp only at hw
  split at hw
  · rename_i x9 he; exact V_fload hd he hw
  · exact hw.elim
theorem wss_fstore_n_i {i : _} (hd : decode y.2.1 pc = .ok (.fstore_n i, 1)) (hw : ws G y d Q (fun rc rs pc lv st h => V G y d rc rs pc lv st h Q) rc rs pc lv st h (.fstore_n i)) : V G y d rc rs pc lv st h Q := by
  unfold ws at hw
  dsimp only at hw
  split at hw
  · exact V_fstore_n hd hw.1 hw.2
  · exact hw.elim
theorem wss_fstore_i {i : _} (hd : decode y.2.1 pc = .ok (.fstore i, 2)) (hw : ws G y d Q (fun rc rs pc lv st h => V G y d rc rs pc lv st h Q) rc rs pc lv st h (.fstore i)) : V G y d rc rs pc lv st h Q := by
  unfold ws at hw
  dsimp only at hw
  split at hw
  · exact V_fstore hd hw.1 hw.2
  · exact hw.elim
theorem wss_dload_n_i {i : _} (hd : decode y.2.1 pc = .ok (.dload_n i, 1)) (hw : ws G y d Q (fun rc rs pc lv st h => V G y d rc rs pc lv st h Q) rc rs pc lv st h (.dload_n i)) : V G y d rc rs pc lv st h Q := by
  unfold ws at hw
  dsimp only at hw
  split at hw
  · rename_i x9 he; exact V_dload_n hd he hw
  · exact hw.elim
theorem wss_dload_i {i : _} (hd : decode y.2.1 pc = .ok (.dload i, 2)) (hw : ws G y d Q (fun rc rs pc lv st h => V G y d rc rs pc lv st h Q) rc rs pc lv st h (.dload i)) : V G y d rc rs pc lv st h Q := by
  unfold ws at hw
  dsimp only at hw
  split at hw
  · rename_i x9 he; exact V_dload hd he hw
  · exact hw.elim
theorem wss_dstore_n_i {i : _} (hd : decode y.2.1 pc = .ok (.dstore_n i, 1)) (hw : ws G y d Q (fun rc rs pc lv st h => V G y d rc rs pc lv st h Q) rc rs pc lv st h (.dstore_n i)) : V G y d rc rs pc lv st h Q := by
  unfold ws at hw
  dsimp only at hw
  split at hw
  · exact V_dstore_n hd hw.1 hw.2
  · exact hw.elim
theorem wss_dstore_i {i : _} (hd : decode y.2.1 pc = .ok (.dstore i, 2)) (hw : ws G y d Q (fun rc rs pc lv st h => V G y d rc rs pc lv st h Q) rc rs pc lv st h (.dstore i)) : V G y d rc rs pc lv st h Q := by
  unfold ws at hw
  dsimp only at hw
  split at hw
  · exact V_dstore hd hw.1 hw.2
  · exact hw.elim
theorem wss_aload_n_i {i : _} (hd : decode y.2.1 pc = .ok (.aload_n i, 1)) (hw : ws G y d Q (fun rc rs pc lv st h => V G y d rc rs pc lv st h Q) rc rs pc lv st h (.aload_n i)) : V G y d rc rs pc lv st h Q := by
  unfold ws at hw
  dsimp only at hw
  split at hw
  · rename_i x9 he; exact V_aload_n hd he hw
  · exact hw.elim
theorem wss_aload_i {i : _} (hd : decode y.2.1 pc = .ok (.aload i, 2)) (hw : ws G y d Q (fun rc rs pc lv st h => V G y d rc rs pc lv st h Q) rc rs pc lv st h (.aload i)) : V G y d rc rs pc lv st h Q := by
  unfold ws at hw
  dsimp only at hw
  split at hw
  · rename_i x9 he; exact V_aload hd he hw
  · exact hw.elim
theorem wss_astore_n_i {i : _} (hd : decode y.2.1 pc = .ok (.astore_n i, 1)) (hw : ws G y d Q (fun rc rs pc lv st h => V G y d rc rs pc lv st h Q) rc rs pc lv st h (.astore_n i)) : V G y d rc rs pc lv st h Q := by
  unfold ws at hw
  dsimp only at hw
  split at hw
  · exact V_astore_n hd hw.1 hw.2
  · exact hw.elim
theorem wss_astore_i {i : _} (hd : decode y.2.1 pc = .ok (.astore i, 2)) (hw : ws G y d Q (fun rc rs pc lv st h => V G y d rc rs pc lv st h Q) rc rs pc lv st h (.astore i)) : V G y d rc rs pc lv st h Q := by
  unfold ws at hw
  dsimp only at hw
  split at hw
  · exact V_astore hd hw.1 hw.2
  · exact hw.elim
theorem wss_iinc_i_n {i : _} {n : _} (hd : decode y.2.1 pc = .ok (.iinc i n, 3)) (hw : ws G y d Q (fun rc rs pc lv st h => V G y d rc rs pc lv st h Q) rc rs pc lv st h (.iinc i n)) : V G y d rc rs pc lv st h Q := by
  unfold ws at hw
  dsimp only at hw
  split at hw
  · rename_i x9 he; exact V_iinc hd he hw.1 hw.2
  · exact hw.elim
theorem wss_iadd (hd : decode y.2.1 pc = .ok (.iadd, 1)) (hw : ws G y d Q (fun rc rs pc lv st h => V G y d rc rs pc lv st h Q) rc rs pc lv st h (.iadd)) : V G y d rc rs pc lv st h Q := by
  unfold ws at hw
  dsimp only at hw
  split at hw
  · exact V_iadd hd hw
  · exact hw.elim
theorem wss_isub (hd : decode y.2.1 pc = .ok (.isub, 1)) (hw : ws G y d Q (fun rc rs pc lv st h => V G y d rc rs pc lv st h Q) rc rs pc lv st h (.isub)) : V G y d rc rs pc lv st h Q := by
  unfold ws at hw
  dsimp only at hw
  split at hw
  · exact V_isub hd hw
  · exact hw.elim
theorem wss_imul (hd : decode y.2.1 pc = .ok (.imul, 1)) (hw : ws G y d Q (fun rc rs pc lv st h => V G y d rc rs pc lv st h Q) rc rs pc lv st h (.imul)) : V G y d rc rs pc lv st h Q := by
  unfold ws at hw
  dsimp only at hw
  split at hw
  · exact V_imul hd hw
  · exact hw.elim
theorem wss_iand (hd : decode y.2.1 pc = .ok (.iand, 1)) (hw : ws G y d Q (fun rc rs pc lv st h => V G y d rc rs pc lv st h Q) rc rs pc lv st h (.iand)) : V G y d rc rs pc lv st h Q := by
  unfold ws at hw
  dsimp only at hw
  split at hw
  · exact V_iand hd hw
  · exact hw.elim
theorem wss_ior (hd : decode y.2.1 pc = .ok (.ior, 1)) (hw : ws G y d Q (fun rc rs pc lv st h => V G y d rc rs pc lv st h Q) rc rs pc lv st h (.ior)) : V G y d rc rs pc lv st h Q := by
  unfold ws at hw
  dsimp only at hw
  split at hw
  · exact V_ior hd hw
  · exact hw.elim
theorem wss_ixor (hd : decode y.2.1 pc = .ok (.ixor, 1)) (hw : ws G y d Q (fun rc rs pc lv st h => V G y d rc rs pc lv st h Q) rc rs pc lv st h (.ixor)) : V G y d rc rs pc lv st h Q := by
  unfold ws at hw
  dsimp only at hw
  split at hw
  · exact V_ixor hd hw
  · exact hw.elim
theorem wss_idiv (hd : decode y.2.1 pc = .ok (.idiv, 1)) (hw : ws G y d Q (fun rc rs pc lv st h => V G y d rc rs pc lv st h Q) rc rs pc lv st h (.idiv)) : V G y d rc rs pc lv st h Q := by
  unfold ws at hw
  dsimp only at hw
  split at hw
  · exact V_idiv hd hw.1 hw.2
  · exact hw.elim
theorem wss_irem (hd : decode y.2.1 pc = .ok (.irem, 1)) (hw : ws G y d Q (fun rc rs pc lv st h => V G y d rc rs pc lv st h Q) rc rs pc lv st h (.irem)) : V G y d rc rs pc lv st h Q := by
  unfold ws at hw
  dsimp only at hw
  split at hw
  · exact V_irem hd hw.1 hw.2
  · exact hw.elim
theorem wss_ishl (hd : decode y.2.1 pc = .ok (.ishl, 1)) (hw : ws G y d Q (fun rc rs pc lv st h => V G y d rc rs pc lv st h Q) rc rs pc lv st h (.ishl)) : V G y d rc rs pc lv st h Q := by
  unfold ws at hw
  dsimp only at hw
  split at hw
  · exact V_ishl hd hw
  · exact hw.elim
theorem wss_ishr (hd : decode y.2.1 pc = .ok (.ishr, 1)) (hw : ws G y d Q (fun rc rs pc lv st h => V G y d rc rs pc lv st h Q) rc rs pc lv st h (.ishr)) : V G y d rc rs pc lv st h Q := by
  unfold ws at hw
  dsimp only at hw
  split at hw
  · exact V_ishr hd hw
  · exact hw.elim
theorem wss_ladd (hd : decode y.2.1 pc = .ok (.ladd, 1)) (hw : ws G y d Q (fun rc rs pc lv st h => V G y d rc rs pc lv st h Q) rc rs pc lv st h (.ladd)) : V G y d rc rs pc lv st h Q := by
  unfold ws at hw
  dsimp only at hw
  split at hw
  · exact V_ladd hd hw
  · exact hw.elim
theorem wss_lsub (hd : decode y.2.1 pc = .ok (.lsub, 1)) (hw : ws G y d Q (fun rc rs pc lv st h => V G y d rc rs pc lv st h Q) rc rs pc lv st h (.lsub)) : V G y d rc rs pc lv st h Q := by
  unfold ws at hw
  dsimp only at hw
  split at hw
  · exact V_lsub hd hw
  · exact hw.elim
theorem wss_lcmp (hd : decode y.2.1 pc = .ok (.lcmp, 1)) (hw : ws G y d Q (fun rc rs pc lv st h => V G y d rc rs pc lv st h Q) rc rs pc lv st h (.lcmp)) : V G y d rc rs pc lv st h Q := by
  unfold ws at hw
  dsimp only at hw
  split at hw
  · exact V_lcmp hd hw
  · exact hw.elim
theorem wss_fdiv (hd : decode y.2.1 pc = .ok (.fdiv, 1)) (hw : ws G y d Q (fun rc rs pc lv st h => V G y d rc rs pc lv st h Q) rc rs pc lv st h (.fdiv)) : V G y d rc rs pc lv st h Q := by
  unfold ws at hw
  dsimp only at hw
  split at hw
  · exact V_fdiv hd hw.1 hw.2
  · exact hw.elim
theorem wss_ddiv (hd : decode y.2.1 pc = .ok (.ddiv, 1)) (hw : ws G y d Q (fun rc rs pc lv st h => V G y d rc rs pc lv st h Q) rc rs pc lv st h (.ddiv)) : V G y d rc rs pc lv st h Q := by
  unfold ws at hw
  dsimp only at hw
  split at hw
  · exact V_ddiv hd hw.1 hw.2
  · exact hw.elim
theorem wss_fcmp_op {op : _} (hd : decode y.2.1 pc = .ok (.fcmp op, 1)) (hw : ws G y d Q (fun rc rs pc lv st h => V G y d rc rs pc lv st h Q) rc rs pc lv st h (.fcmp op)) : V G y d rc rs pc lv st h Q := by
  unfold ws at hw
  dsimp only at hw
  split at hw
  · exact V_fcmp hd hw
  · exact hw.elim
theorem wss_dcmp_op {op : _} (hd : decode y.2.1 pc = .ok (.dcmp op, 1)) (hw : ws G y d Q (fun rc rs pc lv st h => V G y d rc rs pc lv st h Q) rc rs pc lv st h (.dcmp op)) : V G y d rc rs pc lv st h Q := by
  unfold ws at hw
  dsimp only at hw
  split at hw
  · exact V_dcmp hd hw
  · exact hw.elim
theorem wss_ineg (hd : decode y.2.1 pc = .ok (.ineg, 1)) (hw : ws G y d Q (fun rc rs pc lv st h => V G y d rc rs pc lv st h Q) rc rs pc lv st h (.ineg)) : V G y d rc rs pc lv st h Q := by
  unfold ws at hw
  dsimp only at hw
  split at hw
  · exact V_ineg hd hw
  · exact hw.elim
theorem wss_i2l (hd : decode y.2.1 pc = .ok (.i2l, 1)) (hw : ws G y d Q (fun rc rs pc lv st h => V G y d rc rs pc lv st h Q) rc rs pc lv st h (.i2l)) : V G y d rc rs pc lv st h Q := by
  unfold ws at hw
  dsimp only at hw
  split at hw
  · exact V_i2l hd hw
  · exact hw.elim
theorem wss_l2i (hd : decode y.2.1 pc = .ok (.l2i, 1)) (hw : ws G y d Q (fun rc rs pc lv st h => V G y d rc rs pc lv st h Q) rc rs pc lv st h (.l2i)) : V G y d rc rs pc lv st h Q := by
  unfold ws at hw
  dsimp only at hw
  split at hw
  · exact V_l2i hd hw
  · exact hw.elim
theorem wss_i2c (hd : decode y.2.1 pc = .ok (.i2c, 1)) (hw : ws G y d Q (fun rc rs pc lv st h => V G y d rc rs pc lv st h Q) rc rs pc lv st h (.i2c)) : V G y d rc rs pc lv st h Q := by
  unfold ws at hw
  dsimp only at hw
  split at hw
  · exact V_i2c hd hw
  · exact hw.elim
theorem wss_i2b (hd : decode y.2.1 pc = .ok (.i2b, 1)) (hw : ws G y d Q (fun rc rs pc lv st h => V G y d rc rs pc lv st h Q) rc rs pc lv st h (.i2b)) : V G y d rc rs pc lv st h Q := by
  unfold ws at hw
  dsimp only at hw
  split at hw
  · exact V_i2b hd hw
  · exact hw.elim
theorem wss_i2f (hd : decode y.2.1 pc = .ok (.i2f, 1)) (hw : ws G y d Q (fun rc rs pc lv st h => V G y d rc rs pc lv st h Q) rc rs pc lv st h (.i2f)) : V G y d rc rs pc lv st h Q := by
  unfold ws at hw
  dsimp only at hw
  split at hw
  · exact V_i2f hd hw
  · exact hw.elim
theorem wss_i2d (hd : decode y.2.1 pc = .ok (.i2d, 1)) (hw : ws G y d Q (fun rc rs pc lv st h => V G y d rc rs pc lv st h Q) rc rs pc lv st h (.i2d)) : V G y d rc rs pc lv st h Q := by
  unfold ws at hw
  dsimp only at hw
  split at hw
  · exact V_i2d hd hw
  · exact hw.elim
theorem wss_f2d (hd : decode y.2.1 pc = .ok (.f2d, 1)) (hw : ws G y d Q (fun rc rs pc lv st h => V G y d rc rs pc lv st h Q) rc rs pc lv st h (.f2d)) : V G y d rc rs pc lv st h Q := by
  unfold ws at hw
  dsimp only at hw
  split at hw
  · exact V_f2d hd hw.1 hw.2
  · exact hw.elim
theorem wss_dup (hd : decode y.2.1 pc = .ok (.dup, 1)) (hw : ws G y d Q (fun rc rs pc lv st h => V G y d rc rs pc lv st h Q) rc rs pc lv st h (.dup)) : V G y d rc rs pc lv st h Q := by
  unfold ws at hw
  dsimp only at hw
  split at hw
  · exact V_dup hd hw.1 hw.2
  · exact hw.elim
theorem wss_dup2 (hd : decode y.2.1 pc = .ok (.dup2, 1)) (hw : ws G y d Q (fun rc rs pc lv st h => V G y d rc rs pc lv st h Q) rc rs pc lv st h (.dup2)) : V G y d rc rs pc lv st h Q := by
  unfold ws at hw
  dsimp only at hw
  split at hw
  · exact V_dup2 hd hw.1.1 hw.1.2 hw.2
  · exact hw.elim
theorem wss_pop (hd : decode y.2.1 pc = .ok (.pop, 1)) (hw : ws G y d Q (fun rc rs pc lv st h => V G y d rc rs pc lv st h Q) rc rs pc lv st h (.pop)) : V G y d rc rs pc lv st h Q := by
  unfold ws at hw
  dsimp only at hw
  split at hw
  · exact V_pop hd hw.1 hw.2
  · exact hw.elim
theorem wss_if_icmp__eq_off {off : _} (hd : decode y.2.1 pc = .ok (.if_icmp .eq off, 3)) (hw : ws G y d Q (fun rc rs pc lv st h => V G y d rc rs pc lv st h Q) rc rs pc lv st h (.if_icmp .eq off)) : V G y d rc rs pc lv st h Q := by
  unfold ws at hw
  dsimp only at hw
  split at hw
  · exact V_icmp_eq hd hw.1 hw.2.1 hw.2.2
  · exact hw.elim
theorem wss_if_icmp__ne_off {off : _} (hd : decode y.2.1 pc = .ok (.if_icmp .ne off, 3)) (hw : ws G y d Q (fun rc rs pc lv st h => V G y d rc rs pc lv st h Q) rc rs pc lv st h (.if_icmp .ne off)) : V G y d rc rs pc lv st h Q := by
  unfold ws at hw
  dsimp only at hw
  split at hw
  · exact V_icmp_ne hd hw.1 hw.2.1 hw.2.2
  · exact hw.elim
theorem wss_if_icmp__lt_off {off : _} (hd : decode y.2.1 pc = .ok (.if_icmp .lt off, 3)) (hw : ws G y d Q (fun rc rs pc lv st h => V G y d rc rs pc lv st h Q) rc rs pc lv st h (.if_icmp .lt off)) : V G y d rc rs pc lv st h Q := by
  unfold ws at hw
  dsimp only at hw
  split at hw
  · exact V_icmp_lt hd hw.1 hw.2.1 hw.2.2
  · exact hw.elim
theorem wss_if_icmp__ge_off {off : _} (hd : decode y.2.1 pc = .ok (.if_icmp .ge off, 3)) (hw : ws G y d Q (fun rc rs pc lv st h => V G y d rc rs pc lv st h Q) rc rs pc lv st h (.if_icmp .ge off)) : V G y d rc rs pc lv st h Q := by
  unfold ws at hw
  dsimp only at hw
  split at hw
  · exact V_icmp_ge hd hw.1 hw.2.1 hw.2.2
  · exact hw.elim
theorem wss_if_icmp__gt_off {off : _} (hd : decode y.2.1 pc = .ok (.if_icmp .gt off, 3)) (hw : ws G y d Q (fun rc rs pc lv st h => V G y d rc rs pc lv st h Q) rc rs pc lv st h (.if_icmp .gt off)) : V G y d rc rs pc lv st h Q := by
  unfold ws at hw
  dsimp only at hw
  split at hw
  · exact V_icmp_gt hd hw.1 hw.2.1 hw.2.2
  · exact hw.elim
theorem wss_if_icmp__le_off {off : _} (hd : decode y.2.1 pc = .ok (.if_icmp .le off, 3)) (hw : ws G y d Q (fun rc rs pc lv st h => V G y d rc rs pc lv st h Q) rc rs pc lv st h (.if_icmp .le off)) : V G y d rc rs pc lv st h Q := by
  unfold ws at hw
  dsimp only at hw
  split at hw
  · exact V_icmp_le hd hw.1 hw.2.1 hw.2.2
  · exact hw.elim
theorem wss_ifCond__eq_off {off : _} (hd : decode y.2.1 pc = .ok (.ifCond .eq off, 3)) (hw : ws G y d Q (fun rc rs pc lv st h => V G y d rc rs pc lv st h Q) rc rs pc lv st h (.ifCond .eq off)) : V G y d rc rs pc lv st h Q := by
  unfold ws at hw
  dsimp only at hw
  split at hw
  · exact V_if_eq hd hw.1 hw.2.1 hw.2.2
  · exact hw.elim
theorem wss_ifCond__ne_off {off : _} (hd : decode y.2.1 pc = .ok (.ifCond .ne off, 3)) (hw : ws G y d Q (fun rc rs pc lv st h => V G y d rc rs pc lv st h Q) rc rs pc lv st h (.ifCond .ne off)) : V G y d rc rs pc lv st h Q := by
  unfold ws at hw
  dsimp only at hw
  split at hw
  · exact V_if_ne hd hw.1 hw.2.1 hw.2.2
  · exact hw.elim
theorem wss_ifCond__lt_off {off : _} (hd : decode y.2.1 pc = .ok (.ifCond .lt off, 3)) (hw : ws G y d Q (fun rc rs pc lv st h => V G y d rc rs pc lv st h Q) rc rs pc lv st h (.ifCond .lt off)) : V G y d rc rs pc lv st h Q := by
  unfold ws at hw
  dsimp only at hw
  split at hw
  · exact V_if_lt hd hw.1 hw.2.1 hw.2.2
  · exact hw.elim
theorem wss_ifCond__ge_off {off : _} (hd : decode y.2.1 pc = .ok (.ifCond .ge off, 3)) (hw : ws G y d Q (fun rc rs pc lv st h => V G y d rc rs pc lv st h Q) rc rs pc lv st h (.ifCond .ge off)) : V G y d rc rs pc lv st h Q := by
  unfold ws at hw
  dsimp only at hw
  split at hw
  · exact V_if_ge hd hw.1 hw.2.1 hw.2.2
  · exact hw.elim
theorem wss_ifCond__gt_off {off : _} (hd : decode y.2.1 pc = .ok (.ifCond .gt off, 3)) (hw : ws G y d Q (fun rc rs pc lv st h => V G y d rc rs pc lv st h Q) rc rs pc lv st h (.ifCond .gt off)) : V G y d rc rs pc lv st h Q := by
  unfold ws at hw
  dsimp only at hw
  split at hw
  · exact V_if_gt hd hw.1 hw.2.1 hw.2.2
  · exact hw.elim
theorem wss_ifCond__le_off {off : _} (hd : decode y.2.1 pc = .ok (.ifCond .le off, 3)) (hw : ws G y d Q (fun rc rs pc lv st h => V G y d rc rs pc lv st h Q) rc rs pc lv st h (.ifCond .le off)) : V G y d rc rs pc lv st h Q := by
  unfold ws at hw
  dsimp only at hw
  split at hw
  · exact V_if_le hd hw.1 hw.2.1 hw.2.2
  · exact hw.elim
theorem wss_goto_off {off : _} (hd : decode y.2.1 pc = .ok (.goto off, 3)) (hw : ws G y d Q (fun rc rs pc lv st h => V G y d rc rs pc lv st h Q) rc rs pc lv st h (.goto off)) : V G y d rc rs pc lv st h Q := by
  unfold ws at hw
  dsimp only at hw
  exact V_goto hd hw.1 hw.2
theorem wss_getfield_idx {idx : _} (hd : decode y.2.1 pc = .ok (.getfield idx, 3)) (hw : ws G y d Q (fun rc rs pc lv st h => V G y d rc rs pc lv st h Q) rc rs pc lv st h (.getfield idx)) : V G y d rc rs pc lv st h Q := by
  unfold ws at hw
  dsimp only at hw
  split at hw
  · rename_i ci k tc9 fin9 a r he
    obtain ⟨fs, v, h1, h2, h3⟩ := ws_get_ok hw
    rcases FT_ok he with ⟨g1, g2, -⟩ | ⟨g1, g2⟩
    · rw [if_pos g1] at h1
      exact V_getfield hd g2 h1 h2 h3
    · rw [if_neg (Nat.not_lt.mpr g1)] at h1
      exact V_getfieldS hd g2 h1 h2 h3
  · exact hw.elim
theorem wss_putfield_idx {idx : _} (hd : decode y.2.1 pc = .ok (.putfield idx, 3)) (hw : ws G y d Q (fun rc rs pc lv st h => V G y d rc rs pc lv st h Q) rc rs pc lv st h (.putfield idx)) : V G y d rc rs pc lv st h Q := by
  unfold ws at hw
  dsimp only at hw
  split at hw
  · rename_i ci k tc fin v a r he
    obtain ⟨h1, h2, h3, h4, h5⟩ := hw
    obtain ⟨fs, g1, g2, g3⟩ := ws_put_ok h5
    rcases FT_ok he with ⟨q1, q2, q3⟩ | ⟨q1, q2⟩
    · cases fin with
      | false => exact V_putfield hd (q3 h1) g1 h2 g2 g3
      | true => exact V_putfinal hd (q3 h1) (h3 rfl) g1 h2 g2 g3
    · exact absurd h4 (Nat.not_lt.mpr q1)
  · exact hw.elim
theorem wss_iaload (hd : decode y.2.1 pc = .ok (.iaload, 1)) (hw : ws G y d Q (fun rc rs pc lv st h => V G y d rc rs pc lv st h Q) rc rs pc lv st h (.iaload)) : V G y d rc rs pc lv st h Q := by
  unfold ws at hw
  dsimp only at hw
  split at hw
  · rename_i i a r n f he
    rcases cellOf_or he with he | he
    · exact V_iaload hd he hw.1 hw.2
    · exact V_ialoadS hd he hw.1 hw.2
  · exact hw.elim
theorem wss_caload (hd : decode y.2.1 pc = .ok (.caload, 1)) (hw : ws G y d Q (fun rc rs pc lv st h => V G y d rc rs pc lv st h Q) rc rs pc lv st h (.caload)) : V G y d rc rs pc lv st h Q := by
  unfold ws at hw
  dsimp only at hw
  split at hw
  · rename_i i a r n f he
    exact V_caload hd he hw.1 hw.2
  · exact hw.elim
theorem wss_laload (hd : decode y.2.1 pc = .ok (.laload, 1)) (hw : ws G y d Q (fun rc rs pc lv st h => V G y d rc rs pc lv st h Q) rc rs pc lv st h (.laload)) : V G y d rc rs pc lv st h Q := by
  unfold ws at hw
  dsimp only at hw
  split at hw
  · rename_i i a r n f he
    exact V_laload hd he hw.1 hw.2
  · exact hw.elim
theorem wss_daload (hd : decode y.2.1 pc = .ok (.daload, 1)) (hw : ws G y d Q (fun rc rs pc lv st h => V G y d rc rs pc lv st h Q) rc rs pc lv st h (.daload)) : V G y d rc rs pc lv st h Q := by
  unfold ws at hw
  dsimp only at hw
  split at hw
  · rename_i i a r n f he
    exact V_daload hd he hw.1 hw.2
  · exact hw.elim
theorem wss_baload (hd : decode y.2.1 pc = .ok (.baload, 1)) (hw : ws G y d Q (fun rc rs pc lv st h => V G y d rc rs pc lv st h Q) rc rs pc lv st h (.baload)) : V G y d rc rs pc lv st h Q := by
  unfold ws at hw
  dsimp only at hw
  split at hw
  · rename_i i a r n f he
    rcases cellOf_or he with he | he
    · exact V_baload hd he hw.1 hw.2
    · exact V_baloadS hd he hw.1 hw.2
  · exact hw.elim
theorem wss_aaload (hd : decode y.2.1 pc = .ok (.aaload, 1)) (hw : ws G y d Q (fun rc rs pc lv st h => V G y d rc rs pc lv st h Q) rc rs pc lv st h (.aaload)) : V G y d rc rs pc lv st h Q := by
  unfold ws at hw
  dsimp only at hw
  split at hw
  · rename_i i a r t n f he
    obtain ⟨h1, h2, h3⟩ := hw
    rcases cellOf_or he with he | he
    · rcases h2 with rfl | rfl | rfl | h2
      · exact V_aaload5 hd he h1 h3
      · exact V_aaload6 hd he h1 h3
      · exact V_aaload7 hd he h1 h3
      · rw [he] at h2; cases h2
    · exact V_aaloadS hd he h1 h3
  · exact hw.elim
theorem wss_iastore (hd : decode y.2.1 pc = .ok (.iastore, 1)) (hw : ws G y d Q (fun rc rs pc lv st h => V G y d rc rs pc lv st h Q) rc rs pc lv st h (.iastore)) : V G y d rc rs pc lv st h Q := by
  unfold ws at hw
  dsimp only at hw
  split at hw
  · rename_i x i a r n f he
    exact V_iastore hd he hw.1 hw.2
  · exact hw.elim
theorem wss_castore (hd : decode y.2.1 pc = .ok (.castore, 1)) (hw : ws G y d Q (fun rc rs pc lv st h => V G y d rc rs pc lv st h Q) rc rs pc lv st h (.castore)) : V G y d rc rs pc lv st h Q := by
  unfold ws at hw
  dsimp only at hw
  split at hw
  · rename_i x i a r n f he
    exact V_castore hd he hw.1 hw.2
  · exact hw.elim
theorem wss_bastore (hd : decode y.2.1 pc = .ok (.bastore, 1)) (hw : ws G y d Q (fun rc rs pc lv st h => V G y d rc rs pc lv st h Q) rc rs pc lv st h (.bastore)) : V G y d rc rs pc lv st h Q := by
  unfold ws at hw
  dsimp only at hw
  split at hw
  · rename_i x i a r n f he
    exact V_bastore hd he hw.1 hw.2
  · exact hw.elim
theorem wss_lastore (hd : decode y.2.1 pc = .ok (.lastore, 1)) (hw : ws G y d Q (fun rc rs pc lv st h => V G y d rc rs pc lv st h Q) rc rs pc lv st h (.lastore)) : V G y d rc rs pc lv st h Q := by
  unfold ws at hw
  dsimp only at hw
  split at hw
  · rename_i x i a r n f he
    exact V_lastore hd he hw.1 hw.2
  · exact hw.elim
theorem wss_dastore (hd : decode y.2.1 pc = .ok (.dastore, 1)) (hw : ws G y d Q (fun rc rs pc lv st h => V G y d rc rs pc lv st h Q) rc rs pc lv st h (.dastore)) : V G y d rc rs pc lv st h Q := by
  unfold ws at hw
  dsimp only at hw
  split at hw
  · rename_i x i a r n f he
    exact V_dastore hd he hw.1 hw.2
  · exact hw.elim
theorem wss_aastore (hd : decode y.2.1 pc = .ok (.aastore, 1)) (hw : ws G y d Q (fun rc rs pc lv st h => V G y d rc rs pc lv st h Q) rc rs pc lv st h (.aastore)) : V G y d rc rs pc lv st h Q := by
  unfold ws at hw
  dsimp only at hw
  split at hw
  · rename_i v i a r t n f ci vs he hv
    obtain ⟨h1, h2, h3⟩ := hw
    rcases h1 with ⟨rfl, rfl⟩ | ⟨rfl, rfl⟩ | ⟨rfl, rfl⟩
    · exact V_aastore (r := (RX4, TX4, 5)) hd he (by decide) hv rfl rfl h2 h3
    · exact V_aastore (r := (RX6, TX6, 4)) hd he (by decide) hv rfl rfl h2 h3
    · exact V_aastore (r := (RX1, TX1, 5)) hd he (by decide) hv rfl rfl h2 h3
  · exact hw.elim
theorem wss_arraylength (hd : decode y.2.1 pc = .ok (.arraylength, 1)) (hw : ws G y d Q (fun rc rs pc lv st h => V G y d rc rs pc lv st h Q) rc rs pc lv st h (.arraylength)) : V G y d rc rs pc lv st h Q := by
  unfold ws at hw
  dsimp only at hw
  split at hw
  · rename_i a r t n f he
    rcases cellOf_or he with he | he
    · rcases hw.1 with h1 | h1
      · exact V_alen hd he h1 hw.2
      · rw [he] at h1; cases h1
    · exact V_alenS hd he hw.2
  · exact hw.elim
theorem wss_newarray_a9 {a9 : _} (hd : decode y.2.1 pc = .ok (.newarray a9, 2)) (hw : ws G y d Q (fun rc rs pc lv st h => V G y d rc rs pc lv st h Q) rc rs pc lv st h (.newarray a9)) : V G y d rc rs pc lv st h Q := by
  unfold ws at hw
  dsimp only at hw
  split at hw
  · rename_i n r t he
    obtain ⟨k, rfl, h1, h2, h3, h4⟩ := hw
    obtain ⟨g1, g2, g3⟩ := atNo_ok he
    exact V_newarray hd g1 g2 g3 (zrow_ok g1) h1 h2 h3 h4
  · exact hw.elim
theorem wss_anewarray_idx {idx : _} (hd : decode y.2.1 pc = .ok (.anewarray idx, 3)) (hw : ws G y d Q (fun rc rs pc lv st h => V G y d rc rs pc lv st h Q) rc rs pc lv st h (.anewarray idx)) : V G y d rc rs pc lv st h Q := by
  unfold ws at hw
  dsimp only at hw
  split at hw
  · rename_i n r t he
    obtain ⟨k, rfl, h1, h2, h3, h4⟩ := hw
    obtain ⟨C, g1, g2, g3, g4⟩ := AN_ok he
    exact V_anewarray hd g1 g2 g3 (fun s args hfv => va_AO.use (hfv.2.2.2.2.2.1.2.2.2.2.2 _ g4)) h1 h2 h3 h4
  · exact hw.elim
theorem wss_new_idx {idx : _} (hd : decode y.2.1 pc = .ok (.new idx, 3)) (hw : ws G y d Q (fun rc rs pc lv st h => V G y d rc rs pc lv st h Q) rc rs pc lv st h (.new idx)) : V G y d rc rs pc lv st h Q := by
  unfold ws at hw
  dsimp only at hw
  split at hw
  · rename_i ci fs N he
    exact V_new hd (NT_ok he) hw.1 hw.2.1 hw.2.2
  · rename_i E ic hn he
    exact ws_throw_ok hd (XL_ok he).1 (XL_ok he).2 hw
  · exact hw.elim
theorem wss_getstatic_idx {idx : _} (hd : decode y.2.1 pc = .ok (.getstatic idx, 3)) (hw : ws G y d Q (fun rc rs pc lv st h => V G y d rc rs pc lv st h Q) rc rs pc lv st h (.getstatic idx)) : V G y d rc rs pc lv st h Q := by
  unfold ws at hw
  dsimp only at hw
  split at hw
  · rename_i v he; exact V_getstatic hd he hw
  · exact hw.elim
theorem wss_ldc_idx {idx : _} (hd : decode y.2.1 pc = .ok (.ldc idx, 2)) (hw : ws G y d Q (fun rc rs pc lv st h => V G y d rc rs pc lv st h Q) rc rs pc lv st h (.ldc idx)) : V G y d rc rs pc lv st h Q := by
  unfold ws at hw
  dsimp only at hw
  split at hw
  · rename_i v he; exact V_ldc hd (CT_ok he) hw
  · rename_i q hn he; exact V_ldcS hd he hw
  · exact hw.elim
theorem wss_invokevirtual_idx {idx : _} (hd : decode y.2.1 pc = .ok (.invokevirtual idx, 3)) (hw : ws G y d Q (fun rc rs pc lv st h => V G y d rc rs pc lv st h Q) rc rs pc lv st h (.invokevirtual idx)) : V G y d rc rs pc lv st h Q := by
  unfold ws at hw
  dsimp only at hw
  exact ws_call_ok (fun k hk => by rcases hk with rfl | rfl | rfl <;> exact hd) (fun k hk => by omega) hw
theorem wss_invokespecial_idx {idx : _} (hd : decode y.2.1 pc = .ok (.invokespecial idx, 3)) (hw : ws G y d Q (fun rc rs pc lv st h => V G y d rc rs pc lv st h Q) rc rs pc lv st h (.invokespecial idx)) : V G y d rc rs pc lv st h Q := by
  unfold ws at hw
  dsimp only at hw
  rcases hw with ⟨h1, h2⟩ | ⟨h1, h2⟩
  · obtain ⟨a, r, rfl, h3, h4, h5⟩ := ws_oi_ok h2
    exact V_objInit hd (OI_ok h1) gOI1 gOI2 h3 h4 h5
  · exact ws_call_ok (fun k hk => by rcases hk with rfl | rfl | rfl <;> exact hd) (fun k hk => by omega) h2
theorem wss_invokestatic_idx {idx : _} (hd : decode y.2.1 pc = .ok (.invokestatic idx, 3)) (hw : ws G y d Q (fun rc rs pc lv st h => V G y d rc rs pc lv st h Q) rc rs pc lv st h (.invokestatic idx)) : V G y d rc rs pc lv st h Q := by
  unfold ws at hw
  dsimp only at hw
  rcases hw with ⟨h1, h2⟩ | ⟨h1, h2⟩ | ⟨h1, h2⟩ | ⟨h1, h2⟩
  · obtain ⟨n, dp, a, sp, a0, r, t, n0, n1, f, g, rfl, k1, k2, k3, k4, k5, k6, k7, k8, k9, k10, k11, k12⟩ := ws_ac_ok h2
    exact V_copy hd (AC_ok h1) gAC1 gAC2 gAC3 k1 k2 k3 k4 k5 k6 k7 k8 k9 k10 k11 k12
  · obtain ⟨a, b, r, rfl, h3, h4, h5⟩ := ws_mm_ok h2
    exact V_min hd (MN_ok h1) gMN1 gMM gMN2 h3 h4 h5
  · obtain ⟨a, b, r, rfl, h3, h4, h5⟩ := ws_mm_ok h2
    exact V_max hd (MX_ok h1) gMX1 gMM gMX2 h3 h4 h5
  · exact ws_callS_ok hd h2
theorem wss_ireturn (hd : decode y.2.1 pc = .ok (.ireturn, 1)) (hw : ws G y d Q (fun rc rs pc lv st h => V G y d rc rs pc lv st h Q) rc rs pc lv st h (.ireturn)) : V G y d rc rs pc lv st h Q := by
  unfold ws at hw
  dsimp only at hw
  split at hw
  · rename_i x ty he; exact V_ireturn hd he (retok_ok hw.1) hw.2
  · exact hw.elim
theorem wss_return (hd : decode y.2.1 pc = .ok (.return_, 1)) (hw : ws G y d Q (fun rc rs pc lv st h => V G y d rc rs pc lv st h Q) rc rs pc lv st h (.return_)) : V G y d rc rs pc lv st h Q := by
  unfold ws at hw
  dsimp only at hw
  split at hw
  · rename_i he; exact V_vreturn hd he hw
  · exact hw.elim
theorem wss_lreturn (hd : decode y.2.1 pc = .ok (.lreturn, 1)) (hw : ws G y d Q (fun rc rs pc lv st h => V G y d rc rs pc lv st h Q) rc rs pc lv st h (.lreturn)) : V G y d rc rs pc lv st h Q := by
  unfold ws at hw
  dsimp only at hw
  split at hw
  · rename_i x he; exact V_lreturn hd he hw
  · exact hw.elim
theorem wss_freturn (hd : decode y.2.1 pc = .ok (.freturn, 1)) (hw : ws G y d Q (fun rc rs pc lv st h => V G y d rc rs pc lv st h Q) rc rs pc lv st h (.freturn)) : V G y d rc rs pc lv st h Q := by
  unfold ws at hw
  dsimp only at hw
  split at hw
  · rename_i x he; exact V_freturn hd he hw
  · exact hw.elim
theorem wss_dreturn (hd : decode y.2.1 pc = .ok (.dreturn, 1)) (hw : ws G y d Q (fun rc rs pc lv st h => V G y d rc rs pc lv st h Q) rc rs pc lv st h (.dreturn)) : V G y d rc rs pc lv st h Q := by
  unfold ws at hw
  dsimp only at hw
  split at hw
  · rename_i x he; exact V_dreturn hd he hw
  · exact hw.elim
theorem wss_areturn (hd : decode y.2.1 pc = .ok (.areturn, 1)) (hw : ws G y d Q (fun rc rs pc lv st h => V G y d rc rs pc lv st h Q) rc rs pc lv st h (.areturn)) : V G y d rc rs pc lv st h Q := by
  unfold ws at hw
  dsimp only at hw
  split at hw
  · rename_i x ty he; exact V_areturn hd he hw.1 hw.2
  · exact hw.elim
end WSS
