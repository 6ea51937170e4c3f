def sm_len (i : ClassFile.Instr) : Nat := match i with
  | .bipush _ => 2
  | .ldc _ => 2
  | .iload _ => 2
  | .aload _ => 2
  | .istore _ => 2
  | .astore _ => 2
  | .newarray _ => 2
  | .sipush _ => 3
  | .ldc_w _ => 3
  | .iinc _ _ => 3
  | .ifCond _ _ => 3
  | .if_icmp _ _ => 3
  | .if_acmp _ _ => 3
  | .ifnull _ => 3
  | .ifnonnull _ => 3
  | .goto _ => 3
  | .getfield _ => 3
  | .putfield _ => 3
  | .getstatic _ => 3
  | .new _ => 3
  | .anewarray _ => 3
  | .invokevirtual _ => 3
  | .invokespecial _ => 3
  | .invokestatic _ => 3
  | .tableswitch _ _ _ _ => 0
  | .lookupswitch _ _ => 0
  | _ => 1
/-- what a program checks of each row of the tables -/
def sm_chk (me pc : Nat) (i : ClassFile.Instr) (len : Nat) (x : sm_X) : Bool :=
  decide (decode (sm_by me) pc = .ok (i, len)) && ((decide (sm_len i = 0) || decide (len = sm_len i)) && match i with
  | .ldc k => decide (lw_tbl[x.2.2.2]? = some (Jvm.Cond.constant (sm_ow me) k (Int32.ofNat x.1)))
  | .ldc_w k => decide (lw_tbl[x.2.2.2]? = some (Jvm.Cond.constant (sm_ow me) k (Int32.ofNat x.1)))
  | .ifCond _ o => decide (0 ≤ (pc : Int) + o)
  | .if_icmp _ o => decide (0 ≤ (pc : Int) + o)
  | .if_acmp _ o => decide (0 ≤ (pc : Int) + o)
  | .ifnull o => decide (0 ≤ (pc : Int) + o)
  | .ifnonnull o => decide (0 ≤ (pc : Int) + o)
  | .goto o => decide (0 ≤ (pc : Int) + o)
  | .tableswitch df lo hi offs => decide (0 ≤ (pc : Int) + df) && (decide ((offs.size : Int) = hi - lo + 1) && offs.toList.all (fun o => decide (0 ≤ (pc : Int) + o)))
  | .lookupswitch df ps => decide (0 ≤ (pc : Int) + df) && ((ps.toList.zip (ps.toList.drop 1)).all (fun (a, next) => a.1 < next.1) && ps.toList.all (fun o => decide (0 ≤ (pc : Int) + o.2)))
  | .getfield k => decide (x.1 < sm_nc) && (decide (x.2.1 < sm_nf x.1) && (if x.2.2.1 = 0 then decide (lw_tbl[x.2.2.2]? = some (Jvm.Cond.fieldLink (sm_ow me) k (sm_ft x.1 x.2.1).1 (sm_ft x.1 x.2.1).2.1 (sm_ft x.1 x.2.1).2.2.1)) else decide (lw_tbl[x.2.2.2]? = some (Jvm.Cond.fieldLinkNest (sm_ow me) k (sm_ft x.1 x.2.1).1 (sm_ft x.1 x.2.1).2.1 (sm_ft x.1 x.2.1).2.2.1 (sm_ho me)))))
  | .putfield k => decide (x.1 < sm_nc) && (decide (x.2.1 < sm_nf x.1) && (if x.2.2.1 = 0 then decide (lw_tbl[x.2.2.2]? = some (Jvm.Cond.fieldLink (sm_ow me) k (sm_ft x.1 x.2.1).1 (sm_ft x.1 x.2.1).2.1 (sm_ft x.1 x.2.1).2.2.1)) && ((sm_ft x.1 x.2.1).2.2.2 == false || (sm_ii me && decide ((sm_ft x.1 x.2.1).1 = sm_ow me))) else decide (lw_tbl[x.2.2.2]? = some (Jvm.Cond.fieldLinkNest (sm_ow me) k (sm_ft x.1 x.2.1).1 (sm_ft x.1 x.2.1).2.1 (sm_ft x.1 x.2.1).2.2.1 (sm_ho me))) && ((sm_ft x.1 x.2.1).2.2.2 == false)))
  | .getstatic k => decide (x.1 < sm_ns) && decide (lw_tbl[x.2.2.2]? = some (Jvm.Cond.fieldLink (sm_ow me) k (sm_sn x.1).1 (sm_sn x.1).2.1 (sm_sn x.1).2.2))
  | .new k => decide (x.1 < sm_nc) && decide (lw_tbl[x.2.2.2]? = some (Jvm.Cond.classLink (sm_ow me) k (sm_cn x.1)))
  | .newarray t => if 2 + 3 * x.1 < 602 then decide (t = .int) else decide (t = .boolean)
  | .anewarray k => decide (x.1 ∈ sm_arrs) && decide (lw_tbl[x.2.2.2]? = some (Jvm.Cond.classLink (sm_ow me) k (sm_cn x.1)))
  | .invokespecial k => if x.1 = 1 then decide (lw_tbl[x.2.2.2]? = some (Jvm.Cond.methodLink (sm_ow me) k Lib.objectInit)) else if x.1 = 14 then decide (x.2.1 < sm_nm) && (decide ((sm_yn x.2.1).name = "<init>" ∧ sm_st x.2.1 = false ∧ sm_rt x.2.1 = none) && decide (lw_tbl[x.2.2.2]? = some (Jvm.Cond.methodLink (sm_ow me) k (sm_yn x.2.1)))) else decide (x.2.1 < sm_nm) && (decide ((sm_yn x.2.1).name = "<init>" ∧ sm_st x.2.1 = false ∧ sm_rt x.2.1 = none) && decide (lw_tbl[x.2.2.2]? = some (Jvm.Cond.methodLinkNest (sm_ow me) k (sm_yn x.2.1) (sm_ho me))))
  | .invokevirtual k => decide (x.2.1 < sm_nm) && (decide (sm_st x.2.1 = false ∧ sm_ii x.2.1 = false) && (decide (x.2.2.1 < sm_nc) && (decide ((sm_yn x.2.1).cls = sm_cn x.2.2.1) && if x.1 = 10 then decide (lw_tbl[x.2.2.2]? = some (Jvm.Cond.methodLink (sm_ow me) k (sm_yn x.2.1))) else decide (lw_tbl[x.2.2.2]? = some (Jvm.Cond.methodLinkNest (sm_ow me) k (sm_yn x.2.1) (sm_ho me))))))
  | .invokestatic k => if x.1 = 2 then decide (lw_tbl[x.2.2.2]? = some (Jvm.Cond.methodLink (sm_ow me) k Lib.Math.max.name)) else if x.1 = 3 then decide (lw_tbl[x.2.2.2]? = some (Jvm.Cond.methodLink (sm_ow me) k Lib.Math.min.name)) else if x.1 = 4 then decide (lw_tbl[x.2.2.2]? = some (Jvm.Cond.methodLink (sm_ow me) k arraycopyName)) else if x.1 = 12 then decide (x.2.1 < sm_nm ∧ sm_st x.2.1 = true) && decide (lw_tbl[x.2.2.2]? = some (Jvm.Cond.methodLink (sm_ow me) k (sm_yn x.2.1))) else decide (x.2.1 < sm_nm ∧ sm_st x.2.1 = true) && decide (lw_tbl[x.2.2.2]? = some (Jvm.Cond.methodLinkNest (sm_ow me) k (sm_yn x.2.1) (sm_ho me)))
  | _ => true)
