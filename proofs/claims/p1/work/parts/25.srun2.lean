/-! THE LAW RUN BY THE KERNEL: station -/
theorem sr_op11_0 : sm_run s_no sc_meth 40000 (s_env1 0 2147483648 2147483654 2147483654 2147483659 2147483659) (271, 18, sc_l18, sKL, []) [] sh0 = true := by decide +kernel
theorem sr_op11_1 : sm_run s_no sc_meth 40000 (s_env1 2147483649 2147483651 2147483654 2147483654 2147483659 2147483659) (271, 18, sc_l18, sKL, []) [] sh0 = true := by decide +kernel
theorem sr_op11_2 : sm_run s_no sc_meth 40000 (s_env1 2147483652 2147483654 2147483654 2147483654 2147483659 2147483659) (271, 18, sc_l18, sKL, []) [] sh0 = true := by decide +kernel
theorem sr_op11_3 : sm_run s_no sc_meth 40000 (s_env1 2147483655 2147483657 2147483654 2147483654 2147483659 2147483659) (271, 18, sc_l18, sKL, []) [] sh0 = true := by decide +kernel
theorem sr_op11_4 : sm_run s_no sc_meth 40000 (s_env1 2147483658 2147483660 2147483654 2147483654 2147483659 2147483659) (271, 18, sc_l18, sKL, []) [] sh0 = true := by decide +kernel
