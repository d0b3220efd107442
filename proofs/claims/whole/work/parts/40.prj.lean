/-! what a change of one field leaves, field by field -/
section L3q
variable {S : RS}
theorem RS.P_sP {x : Nat → List Nat} : (S.sP x).P = x := rfl
theorem RS.P_sk {x : Nat → Int64} : (S.sk x).P = S.P := rfl
theorem RS.P_sl {x : Nat → Nat} : (S.sl x).P = S.P := rfl
theorem RS.P_sv {x : Nat → Nat → Int32} : (S.sv x).P = S.P := rfl
theorem RS.P_snw {x : Nat → Int32} : (S.snw x).P = S.P := rfl
theorem RS.P_sgt {x : Nat → Int32} : (S.sgt x).P = S.P := rfl
theorem RS.P_scm {x : Nat → Nat} : (S.scm x).P = S.P := rfl
theorem RS.P_smk {x : Nat → Int32} : (S.smk x).P = S.P := rfl
theorem RS.P_sw {x : Nat} : (S.sw x).P = S.P := rfl
theorem RS.P_st {x : Nat} : (S.st x).P = S.P := rfl
theorem RS.P_sc {x : Nat → Int32} : (S.sc x).P = S.P := rfl
theorem RS.P_sg {x : List Nat} : (S.sg x).P = S.P := rfl
theorem RS.P_sh {x : List Nat} : (S.sh x).P = S.P := rfl
theorem RS.k_sP {x : Nat → List Nat} : (S.sP x).k = S.k := rfl
theorem RS.k_sk {x : Nat → Int64} : (S.sk x).k = x := rfl
theorem RS.k_sl {x : Nat → Nat} : (S.sl x).k = S.k := rfl
theorem RS.k_sv {x : Nat → Nat → Int32} : (S.sv x).k = S.k := rfl
theorem RS.k_snw {x : Nat → Int32} : (S.snw x).k = S.k := rfl
theorem RS.k_sgt {x : Nat → Int32} : (S.sgt x).k = S.k := rfl
theorem RS.k_scm {x : Nat → Nat} : (S.scm x).k = S.k := rfl
theorem RS.k_smk {x : Nat → Int32} : (S.smk x).k = S.k := rfl
theorem RS.k_sw {x : Nat} : (S.sw x).k = S.k := rfl
theorem RS.k_st {x : Nat} : (S.st x).k = S.k := rfl
theorem RS.k_sc {x : Nat → Int32} : (S.sc x).k = S.k := rfl
theorem RS.k_sg {x : List Nat} : (S.sg x).k = S.k := rfl
theorem RS.k_sh {x : List Nat} : (S.sh x).k = S.k := rfl
theorem RS.l_sP {x : Nat → List Nat} : (S.sP x).l = S.l := rfl
theorem RS.l_sk {x : Nat → Int64} : (S.sk x).l = S.l := rfl
theorem RS.l_sl {x : Nat → Nat} : (S.sl x).l = x := rfl
theorem RS.l_sv {x : Nat → Nat → Int32} : (S.sv x).l = S.l := rfl
theorem RS.l_snw {x : Nat → Int32} : (S.snw x).l = S.l := rfl
theorem RS.l_sgt {x : Nat → Int32} : (S.sgt x).l = S.l := rfl
theorem RS.l_scm {x : Nat → Nat} : (S.scm x).l = S.l := rfl
theorem RS.l_smk {x : Nat → Int32} : (S.smk x).l = S.l := rfl
theorem RS.l_sw {x : Nat} : (S.sw x).l = S.l := rfl
theorem RS.l_st {x : Nat} : (S.st x).l = S.l := rfl
theorem RS.l_sc {x : Nat → Int32} : (S.sc x).l = S.l := rfl
theorem RS.l_sg {x : List Nat} : (S.sg x).l = S.l := rfl
theorem RS.l_sh {x : List Nat} : (S.sh x).l = S.l := rfl
theorem RS.v_sP {x : Nat → List Nat} : (S.sP x).v = S.v := rfl
theorem RS.v_sk {x : Nat → Int64} : (S.sk x).v = S.v := rfl
theorem RS.v_sl {x : Nat → Nat} : (S.sl x).v = S.v := rfl
theorem RS.v_sv {x : Nat → Nat → Int32} : (S.sv x).v = x := rfl
theorem RS.v_snw {x : Nat → Int32} : (S.snw x).v = S.v := rfl
theorem RS.v_sgt {x : Nat → Int32} : (S.sgt x).v = S.v := rfl
theorem RS.v_scm {x : Nat → Nat} : (S.scm x).v = S.v := rfl
theorem RS.v_smk {x : Nat → Int32} : (S.smk x).v = S.v := rfl
theorem RS.v_sw {x : Nat} : (S.sw x).v = S.v := rfl
theorem RS.v_st {x : Nat} : (S.st x).v = S.v := rfl
theorem RS.v_sc {x : Nat → Int32} : (S.sc x).v = S.v := rfl
theorem RS.v_sg {x : List Nat} : (S.sg x).v = S.v := rfl
theorem RS.v_sh {x : List Nat} : (S.sh x).v = S.v := rfl
theorem RS.nw_sP {x : Nat → List Nat} : (S.sP x).nw = S.nw := rfl
theorem RS.nw_sk {x : Nat → Int64} : (S.sk x).nw = S.nw := rfl
theorem RS.nw_sl {x : Nat → Nat} : (S.sl x).nw = S.nw := rfl
theorem RS.nw_sv {x : Nat → Nat → Int32} : (S.sv x).nw = S.nw := rfl
theorem RS.nw_snw {x : Nat → Int32} : (S.snw x).nw = x := rfl
theorem RS.nw_sgt {x : Nat → Int32} : (S.sgt x).nw = S.nw := rfl
theorem RS.nw_scm {x : Nat → Nat} : (S.scm x).nw = S.nw := rfl
theorem RS.nw_smk {x : Nat → Int32} : (S.smk x).nw = S.nw := rfl
theorem RS.nw_sw {x : Nat} : (S.sw x).nw = S.nw := rfl
theorem RS.nw_st {x : Nat} : (S.st x).nw = S.nw := rfl
theorem RS.nw_sc {x : Nat → Int32} : (S.sc x).nw = S.nw := rfl
theorem RS.nw_sg {x : List Nat} : (S.sg x).nw = S.nw := rfl
theorem RS.nw_sh {x : List Nat} : (S.sh x).nw = S.nw := rfl
theorem RS.gt_sP {x : Nat → List Nat} : (S.sP x).gt = S.gt := rfl
theorem RS.gt_sk {x : Nat → Int64} : (S.sk x).gt = S.gt := rfl
theorem RS.gt_sl {x : Nat → Nat} : (S.sl x).gt = S.gt := rfl
theorem RS.gt_sv {x : Nat → Nat → Int32} : (S.sv x).gt = S.gt := rfl
theorem RS.gt_snw {x : Nat → Int32} : (S.snw x).gt = S.gt := rfl
theorem RS.gt_sgt {x : Nat → Int32} : (S.sgt x).gt = x := rfl
theorem RS.gt_scm {x : Nat → Nat} : (S.scm x).gt = S.gt := rfl
theorem RS.gt_smk {x : Nat → Int32} : (S.smk x).gt = S.gt := rfl
theorem RS.gt_sw {x : Nat} : (S.sw x).gt = S.gt := rfl
theorem RS.gt_st {x : Nat} : (S.st x).gt = S.gt := rfl
theorem RS.gt_sc {x : Nat → Int32} : (S.sc x).gt = S.gt := rfl
theorem RS.gt_sg {x : List Nat} : (S.sg x).gt = S.gt := rfl
theorem RS.gt_sh {x : List Nat} : (S.sh x).gt = S.gt := rfl
theorem RS.cm_sP {x : Nat → List Nat} : (S.sP x).cm = S.cm := rfl
theorem RS.cm_sk {x : Nat → Int64} : (S.sk x).cm = S.cm := rfl
theorem RS.cm_sl {x : Nat → Nat} : (S.sl x).cm = S.cm := rfl
theorem RS.cm_sv {x : Nat → Nat → Int32} : (S.sv x).cm = S.cm := rfl
theorem RS.cm_snw {x : Nat → Int32} : (S.snw x).cm = S.cm := rfl
theorem RS.cm_sgt {x : Nat → Int32} : (S.sgt x).cm = S.cm := rfl
theorem RS.cm_scm {x : Nat → Nat} : (S.scm x).cm = x := rfl
theorem RS.cm_smk {x : Nat → Int32} : (S.smk x).cm = S.cm := rfl
theorem RS.cm_sw {x : Nat} : (S.sw x).cm = S.cm := rfl
theorem RS.cm_st {x : Nat} : (S.st x).cm = S.cm := rfl
theorem RS.cm_sc {x : Nat → Int32} : (S.sc x).cm = S.cm := rfl
theorem RS.cm_sg {x : List Nat} : (S.sg x).cm = S.cm := rfl
theorem RS.cm_sh {x : List Nat} : (S.sh x).cm = S.cm := rfl
theorem RS.mk_sP {x : Nat → List Nat} : (S.sP x).mk = S.mk := rfl
theorem RS.mk_sk {x : Nat → Int64} : (S.sk x).mk = S.mk := rfl
theorem RS.mk_sl {x : Nat → Nat} : (S.sl x).mk = S.mk := rfl
theorem RS.mk_sv {x : Nat → Nat → Int32} : (S.sv x).mk = S.mk := rfl
theorem RS.mk_snw {x : Nat → Int32} : (S.snw x).mk = S.mk := rfl
theorem RS.mk_sgt {x : Nat → Int32} : (S.sgt x).mk = S.mk := rfl
theorem RS.mk_scm {x : Nat → Nat} : (S.scm x).mk = S.mk := rfl
theorem RS.mk_smk {x : Nat → Int32} : (S.smk x).mk = x := rfl
theorem RS.mk_sw {x : Nat} : (S.sw x).mk = S.mk := rfl
theorem RS.mk_st {x : Nat} : (S.st x).mk = S.mk := rfl
theorem RS.mk_sc {x : Nat → Int32} : (S.sc x).mk = S.mk := rfl
theorem RS.mk_sg {x : List Nat} : (S.sg x).mk = S.mk := rfl
theorem RS.mk_sh {x : List Nat} : (S.sh x).mk = S.mk := rfl
theorem RS.w_sP {x : Nat → List Nat} : (S.sP x).w = S.w := rfl
theorem RS.w_sk {x : Nat → Int64} : (S.sk x).w = S.w := rfl
theorem RS.w_sl {x : Nat → Nat} : (S.sl x).w = S.w := rfl
theorem RS.w_sv {x : Nat → Nat → Int32} : (S.sv x).w = S.w := rfl
theorem RS.w_snw {x : Nat → Int32} : (S.snw x).w = S.w := rfl
theorem RS.w_sgt {x : Nat → Int32} : (S.sgt x).w = S.w := rfl
theorem RS.w_scm {x : Nat → Nat} : (S.scm x).w = S.w := rfl
theorem RS.w_smk {x : Nat → Int32} : (S.smk x).w = S.w := rfl
theorem RS.w_sw {x : Nat} : (S.sw x).w = x := rfl
theorem RS.w_st {x : Nat} : (S.st x).w = S.w := rfl
theorem RS.w_sc {x : Nat → Int32} : (S.sc x).w = S.w := rfl
theorem RS.w_sg {x : List Nat} : (S.sg x).w = S.w := rfl
theorem RS.w_sh {x : List Nat} : (S.sh x).w = S.w := rfl
theorem RS.t_sP {x : Nat → List Nat} : (S.sP x).t = S.t := rfl
theorem RS.t_sk {x : Nat → Int64} : (S.sk x).t = S.t := rfl
theorem RS.t_sl {x : Nat → Nat} : (S.sl x).t = S.t := rfl
theorem RS.t_sv {x : Nat → Nat → Int32} : (S.sv x).t = S.t := rfl
theorem RS.t_snw {x : Nat → Int32} : (S.snw x).t = S.t := rfl
theorem RS.t_sgt {x : Nat → Int32} : (S.sgt x).t = S.t := rfl
theorem RS.t_scm {x : Nat → Nat} : (S.scm x).t = S.t := rfl
theorem RS.t_smk {x : Nat → Int32} : (S.smk x).t = S.t := rfl
theorem RS.t_sw {x : Nat} : (S.sw x).t = S.t := rfl
theorem RS.t_st {x : Nat} : (S.st x).t = x := rfl
theorem RS.t_sc {x : Nat → Int32} : (S.sc x).t = S.t := rfl
theorem RS.t_sg {x : List Nat} : (S.sg x).t = S.t := rfl
theorem RS.t_sh {x : List Nat} : (S.sh x).t = S.t := rfl
theorem RS.c_sP {x : Nat → List Nat} : (S.sP x).c = S.c := rfl
theorem RS.c_sk {x : Nat → Int64} : (S.sk x).c = S.c := rfl
theorem RS.c_sl {x : Nat → Nat} : (S.sl x).c = S.c := rfl
theorem RS.c_sv {x : Nat → Nat → Int32} : (S.sv x).c = S.c := rfl
theorem RS.c_snw {x : Nat → Int32} : (S.snw x).c = S.c := rfl
theorem RS.c_sgt {x : Nat → Int32} : (S.sgt x).c = S.c := rfl
theorem RS.c_scm {x : Nat → Nat} : (S.scm x).c = S.c := rfl
theorem RS.c_smk {x : Nat → Int32} : (S.smk x).c = S.c := rfl
theorem RS.c_sw {x : Nat} : (S.sw x).c = S.c := rfl
theorem RS.c_st {x : Nat} : (S.st x).c = S.c := rfl
theorem RS.c_sc {x : Nat → Int32} : (S.sc x).c = x := rfl
theorem RS.c_sg {x : List Nat} : (S.sg x).c = S.c := rfl
theorem RS.c_sh {x : List Nat} : (S.sh x).c = S.c := rfl
theorem RS.g_sP {x : Nat → List Nat} : (S.sP x).g = S.g := rfl
theorem RS.g_sk {x : Nat → Int64} : (S.sk x).g = S.g := rfl
theorem RS.g_sl {x : Nat → Nat} : (S.sl x).g = S.g := rfl
theorem RS.g_sv {x : Nat → Nat → Int32} : (S.sv x).g = S.g := rfl
theorem RS.g_snw {x : Nat → Int32} : (S.snw x).g = S.g := rfl
theorem RS.g_sgt {x : Nat → Int32} : (S.sgt x).g = S.g := rfl
theorem RS.g_scm {x : Nat → Nat} : (S.scm x).g = S.g := rfl
theorem RS.g_smk {x : Nat → Int32} : (S.smk x).g = S.g := rfl
theorem RS.g_sw {x : Nat} : (S.sw x).g = S.g := rfl
theorem RS.g_st {x : Nat} : (S.st x).g = S.g := rfl
theorem RS.g_sc {x : Nat → Int32} : (S.sc x).g = S.g := rfl
theorem RS.g_sg {x : List Nat} : (S.sg x).g = x := rfl
theorem RS.g_sh {x : List Nat} : (S.sh x).g = S.g := rfl
theorem RS.h_sP {x : Nat → List Nat} : (S.sP x).h = S.h := rfl
theorem RS.h_sk {x : Nat → Int64} : (S.sk x).h = S.h := rfl
theorem RS.h_sl {x : Nat → Nat} : (S.sl x).h = S.h := rfl
theorem RS.h_sv {x : Nat → Nat → Int32} : (S.sv x).h = S.h := rfl
theorem RS.h_snw {x : Nat → Int32} : (S.snw x).h = S.h := rfl
theorem RS.h_sgt {x : Nat → Int32} : (S.sgt x).h = S.h := rfl
theorem RS.h_scm {x : Nat → Nat} : (S.scm x).h = S.h := rfl
theorem RS.h_smk {x : Nat → Int32} : (S.smk x).h = S.h := rfl
theorem RS.h_sw {x : Nat} : (S.sw x).h = S.h := rfl
theorem RS.h_st {x : Nat} : (S.st x).h = S.h := rfl
theorem RS.h_sc {x : Nat → Int32} : (S.sc x).h = S.h := rfl
theorem RS.h_sg {x : List Nat} : (S.sg x).h = S.h := rfl
theorem RS.h_sh {x : List Nat} : (S.sh x).h = x := rfl
theorem RS.sP_self : S.sP S.P = S := rfl
theorem RS.sk_self : S.sk S.k = S := rfl
theorem RS.sl_self : S.sl S.l = S := rfl
theorem RS.sv_self : S.sv S.v = S := rfl
theorem RS.snw_self : S.snw S.nw = S := rfl
theorem RS.sgt_self : S.sgt S.gt = S := rfl
theorem RS.scm_self : S.scm S.cm = S := rfl
theorem RS.smk_self : S.smk S.mk = S := rfl
theorem RS.sw_self : S.sw S.w = S := rfl
theorem RS.st_self : S.st S.t = S := rfl
theorem RS.sc_self : S.sc S.c = S := rfl
theorem RS.sg_self : S.sg S.g = S := rfl
theorem RS.sh_self : S.sh S.h = S := rfl
end L3q
