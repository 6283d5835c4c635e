/-! Printed: the law's body, decoded, 8. -/
theorem dL_law_2847 : decode cL_law 2847 = .ok (.iconst 0, 1) := by decide +kernel
theorem dL_law_2848 : decode cL_law 2848 = .ok (.laload, 1) := by decide +kernel
theorem dL_law_2849 : decode cL_law 2849 = .ok (.iload 7, 2) := by decide +kernel
theorem dL_law_2851 : decode cL_law 2851 = .ok (.i2l, 1) := by decide +kernel
theorem dL_law_2852 : decode cL_law 2852 = .ok (.lcmp, 1) := by decide +kernel
theorem dL_law_2853 : decode cL_law 2853 = .ok (.ifCond .eq 5, 3) := by decide +kernel
theorem dL_law_2858 : decode cL_law 2858 = .ok (.goto 807, 3) := by decide +kernel
theorem dL_law_2861 : decode cL_law 2861 = .ok (.aload_n 1, 1) := by decide +kernel
theorem dL_law_2862 : decode cL_law 2862 = .ok (.aload_n 0, 1) := by decide +kernel
theorem dL_law_2863 : decode cL_law 2863 = .ok (.iload 5, 2) := by decide +kernel
theorem dL_law_2865 : decode cL_law 2865 = .ok (.iconst 1, 1) := by decide +kernel
theorem dL_law_2866 : decode cL_law 2866 = .ok (.iadd, 1) := by decide +kernel
theorem dL_law_2867 : decode cL_law 2867 = .ok (.iaload, 1) := by decide +kernel
theorem dL_law_2868 : decode cL_law 2868 = .ok (.aload_n 0, 1) := by decide +kernel
theorem dL_law_2869 : decode cL_law 2869 = .ok (.iload 5, 2) := by decide +kernel
theorem dL_law_2871 : decode cL_law 2871 = .ok (.iconst 2, 1) := by decide +kernel
theorem dL_law_2872 : decode cL_law 2872 = .ok (.iadd, 1) := by decide +kernel
theorem dL_law_2873 : decode cL_law 2873 = .ok (.iaload, 1) := by decide +kernel
theorem dL_law_2874 : decode cL_law 2874 = .ok (.aload_n 3, 1) := by decide +kernel
theorem dL_law_2875 : decode cL_law 2875 = .ok (.invokestatic 327, 3) := by decide +kernel
theorem dL_law_2878 : decode cL_law 2878 = .ok (.istore 6, 2) := by decide +kernel
theorem dL_law_2880 : decode cL_law 2880 = .ok (.aload_n 2, 1) := by decide +kernel
theorem dL_law_2881 : decode cL_law 2881 = .ok (.aload_n 0, 1) := by decide +kernel
theorem dL_law_2882 : decode cL_law 2882 = .ok (.iload 5, 2) := by decide +kernel
theorem dL_law_2884 : decode cL_law 2884 = .ok (.iconst 1, 1) := by decide +kernel
theorem dL_law_2885 : decode cL_law 2885 = .ok (.iadd, 1) := by decide +kernel
theorem dL_law_2886 : decode cL_law 2886 = .ok (.iaload, 1) := by decide +kernel
theorem dL_law_2887 : decode cL_law 2887 = .ok (.aload_n 0, 1) := by decide +kernel
theorem dL_law_2888 : decode cL_law 2888 = .ok (.iload 5, 2) := by decide +kernel
theorem dL_law_2890 : decode cL_law 2890 = .ok (.iconst 2, 1) := by decide +kernel
theorem dL_law_2891 : decode cL_law 2891 = .ok (.iadd, 1) := by decide +kernel
theorem dL_law_2892 : decode cL_law 2892 = .ok (.iaload, 1) := by decide +kernel
theorem dL_law_2893 : decode cL_law 2893 = .ok (.invokevirtual 329, 3) := by decide +kernel
theorem dL_law_2896 : decode cL_law 2896 = .ok (.istore 7, 2) := by decide +kernel
theorem dL_law_2898 : decode cL_law 2898 = .ok (.aload_n 2, 1) := by decide +kernel
theorem dL_law_2899 : decode cL_law 2899 = .ok (.invokevirtual 198, 3) := by decide +kernel
theorem dL_law_2902 : decode cL_law 2902 = .ok (.iload 6, 2) := by decide +kernel
theorem dL_law_2904 : decode cL_law 2904 = .ok (.if_icmp .eq 5, 3) := by decide +kernel
theorem dL_law_2909 : decode cL_law 2909 = .ok (.iload 6, 2) := by decide +kernel
theorem dL_law_2911 : decode cL_law 2911 = .ok (.ifCond .ne 22, 3) := by decide +kernel
theorem dL_law_2914 : decode cL_law 2914 = .ok (.aload_n 3, 1) := by decide +kernel
theorem dL_law_2915 : decode cL_law 2915 = .ok (.iconst 0, 1) := by decide +kernel
theorem dL_law_2916 : decode cL_law 2916 = .ok (.laload, 1) := by decide +kernel
theorem dL_law_2917 : decode cL_law 2917 = .ok (.iload 7, 2) := by decide +kernel
theorem dL_law_2919 : decode cL_law 2919 = .ok (.ifCond .eq 7, 3) := by decide +kernel
theorem dL_law_2922 : decode cL_law 2922 = .ok (.lconst 1, 1) := by decide +kernel
theorem dL_law_2923 : decode cL_law 2923 = .ok (.goto 4, 3) := by decide +kernel
theorem dL_law_2926 : decode cL_law 2926 = .ok (.lconst 0, 1) := by decide +kernel
theorem dL_law_2927 : decode cL_law 2927 = .ok (.lcmp, 1) := by decide +kernel
theorem dL_law_2928 : decode cL_law 2928 = .ok (.ifCond .eq 5, 3) := by decide +kernel
theorem dL_law_2933 : decode cL_law 2933 = .ok (.goto 732, 3) := by decide +kernel
theorem dL_law_2936 : decode cL_law 2936 = .ok (.aload_n 1, 1) := by decide +kernel
theorem dL_law_2937 : decode cL_law 2937 = .ok (.invokevirtual 330, 3) := by decide +kernel
theorem dL_law_2940 : decode cL_law 2940 = .ok (.aload_n 2, 1) := by decide +kernel
theorem dL_law_2941 : decode cL_law 2941 = .ok (.invokevirtual 333, 3) := by decide +kernel
theorem dL_law_2944 : decode cL_law 2944 = .ok (.if_icmp .eq 721, 3) := by decide +kernel
theorem dL_law_2949 : decode cL_law 2949 = .ok (.aload_n 1, 1) := by decide +kernel
theorem dL_law_2950 : decode cL_law 2950 = .ok (.aload_n 3, 1) := by decide +kernel
theorem dL_law_2951 : decode cL_law 2951 = .ok (.invokestatic 334, 3) := by decide +kernel
theorem dL_law_2954 : decode cL_law 2954 = .ok (.istore 6, 2) := by decide +kernel
theorem dL_law_2956 : decode cL_law 2956 = .ok (.aload_n 2, 1) := by decide +kernel
theorem dL_law_2957 : decode cL_law 2957 = .ok (.invokevirtual 337, 3) := by decide +kernel
theorem dL_law_2960 : decode cL_law 2960 = .ok (.istore 7, 2) := by decide +kernel
theorem dL_law_2962 : decode cL_law 2962 = .ok (.aload_n 2, 1) := by decide +kernel
theorem dL_law_2963 : decode cL_law 2963 = .ok (.invokevirtual 198, 3) := by decide +kernel
theorem dL_law_2966 : decode cL_law 2966 = .ok (.iload 6, 2) := by decide +kernel
theorem dL_law_2968 : decode cL_law 2968 = .ok (.if_icmp .eq 5, 3) := by decide +kernel
theorem dL_law_2973 : decode cL_law 2973 = .ok (.iload 6, 2) := by decide +kernel
theorem dL_law_2975 : decode cL_law 2975 = .ok (.ifCond .ne 15, 3) := by decide +kernel
theorem dL_law_2978 : decode cL_law 2978 = .ok (.aload_n 3, 1) := by decide +kernel
theorem dL_law_2979 : decode cL_law 2979 = .ok (.iconst 0, 1) := by decide +kernel
theorem dL_law_2980 : decode cL_law 2980 = .ok (.laload, 1) := by decide +kernel
theorem dL_law_2981 : decode cL_law 2981 = .ok (.iload 7, 2) := by decide +kernel
theorem dL_law_2983 : decode cL_law 2983 = .ok (.i2l, 1) := by decide +kernel
theorem dL_law_2984 : decode cL_law 2984 = .ok (.lcmp, 1) := by decide +kernel
theorem dL_law_2985 : decode cL_law 2985 = .ok (.ifCond .eq 5, 3) := by decide +kernel
theorem dL_law_2990 : decode cL_law 2990 = .ok (.goto 675, 3) := by decide +kernel
theorem dL_law_2993 : decode cL_law 2993 = .ok (.aload_n 1, 1) := by decide +kernel
theorem dL_law_2994 : decode cL_law 2994 = .ok (.aload_n 3, 1) := by decide +kernel
theorem dL_law_2995 : decode cL_law 2995 = .ok (.invokestatic 338, 3) := by decide +kernel
theorem dL_law_2998 : decode cL_law 2998 = .ok (.istore 6, 2) := by decide +kernel
theorem dL_law_3000 : decode cL_law 3000 = .ok (.aload_n 2, 1) := by decide +kernel
theorem dL_law_3001 : decode cL_law 3001 = .ok (.invokevirtual 340, 3) := by decide +kernel
theorem dL_law_3004 : decode cL_law 3004 = .ok (.istore 7, 2) := by decide +kernel
theorem dL_law_3006 : decode cL_law 3006 = .ok (.aload_n 2, 1) := by decide +kernel
theorem dL_law_3007 : decode cL_law 3007 = .ok (.invokevirtual 198, 3) := by decide +kernel
theorem dL_law_3010 : decode cL_law 3010 = .ok (.iload 6, 2) := by decide +kernel
theorem dL_law_3012 : decode cL_law 3012 = .ok (.if_icmp .eq 5, 3) := by decide +kernel
theorem dL_law_3017 : decode cL_law 3017 = .ok (.iload 6, 2) := by decide +kernel
theorem dL_law_3019 : decode cL_law 3019 = .ok (.ifCond .ne 15, 3) := by decide +kernel
theorem dL_law_3022 : decode cL_law 3022 = .ok (.aload_n 3, 1) := by decide +kernel
theorem dL_law_3023 : decode cL_law 3023 = .ok (.iconst 0, 1) := by decide +kernel
theorem dL_law_3024 : decode cL_law 3024 = .ok (.laload, 1) := by decide +kernel
theorem dL_law_3025 : decode cL_law 3025 = .ok (.iload 7, 2) := by decide +kernel
theorem dL_law_3027 : decode cL_law 3027 = .ok (.i2l, 1) := by decide +kernel
theorem dL_law_3028 : decode cL_law 3028 = .ok (.lcmp, 1) := by decide +kernel
theorem dL_law_3029 : decode cL_law 3029 = .ok (.ifCond .eq 5, 3) := by decide +kernel
theorem dL_law_3034 : decode cL_law 3034 = .ok (.goto 631, 3) := by decide +kernel
theorem dL_law_3037 : decode cL_law 3037 = .ok (.aload_n 1, 1) := by decide +kernel
theorem dL_law_3038 : decode cL_law 3038 = .ok (.aload 4, 2) := by decide +kernel
theorem dL_law_3040 : decode cL_law 3040 = .ok (.invokestatic 341, 3) := by decide +kernel
theorem dL_law_3043 : decode cL_law 3043 = .ok (.istore 6, 2) := by decide +kernel
theorem dL_law_3045 : decode cL_law 3045 = .ok (.aload_n 2, 1) := by decide +kernel
theorem dL_law_3046 : decode cL_law 3046 = .ok (.invokevirtual 344, 3) := by decide +kernel
theorem dL_law_3049 : decode cL_law 3049 = .ok (.dstore 7, 2) := by decide +kernel
theorem dL_law_3051 : decode cL_law 3051 = .ok (.aload_n 2, 1) := by decide +kernel
theorem dL_law_3052 : decode cL_law 3052 = .ok (.invokevirtual 198, 3) := by decide +kernel
theorem dL_law_3055 : decode cL_law 3055 = .ok (.iload 6, 2) := by decide +kernel
theorem dL_law_3057 : decode cL_law 3057 = .ok (.if_icmp .eq 5, 3) := by decide +kernel
theorem dL_law_3062 : decode cL_law 3062 = .ok (.iload 6, 2) := by decide +kernel
theorem dL_law_3064 : decode cL_law 3064 = .ok (.ifCond .ne 35, 3) := by decide +kernel
theorem dL_law_3067 : decode cL_law 3067 = .ok (.aload 4, 2) := by decide +kernel
theorem dL_law_3069 : decode cL_law 3069 = .ok (.iconst 0, 1) := by decide +kernel
theorem dL_law_3070 : decode cL_law 3070 = .ok (.daload, 1) := by decide +kernel
theorem dL_law_3071 : decode cL_law 3071 = .ok (.dload 7, 2) := by decide +kernel
theorem dL_law_3073 : decode cL_law 3073 = .ok (.dcmp .l, 1) := by decide +kernel
theorem dL_law_3074 : decode cL_law 3074 = .ok (.ifCond .eq 25, 3) := by decide +kernel
theorem dL_law_3099 : decode cL_law 3099 = .ok (.goto 566, 3) := by decide +kernel
theorem dL_law_3102 : decode cL_law 3102 = .ok (.aload_n 1, 1) := by decide +kernel
theorem dL_law_3103 : decode cL_law 3103 = .ok (.aload 4, 2) := by decide +kernel
theorem dL_law_3105 : decode cL_law 3105 = .ok (.invokestatic 345, 3) := by decide +kernel
theorem dL_law_3108 : decode cL_law 3108 = .ok (.istore 6, 2) := by decide +kernel
theorem dL_law_3110 : decode cL_law 3110 = .ok (.aload_n 2, 1) := by decide +kernel
theorem dL_law_3111 : decode cL_law 3111 = .ok (.invokevirtual 347, 3) := by decide +kernel
theorem dL_law_3114 : decode cL_law 3114 = .ok (.fstore 7, 2) := by decide +kernel
theorem dL_law_3116 : decode cL_law 3116 = .ok (.aload_n 2, 1) := by decide +kernel
theorem dL_law_3117 : decode cL_law 3117 = .ok (.invokevirtual 198, 3) := by decide +kernel
theorem dL_law_3120 : decode cL_law 3120 = .ok (.iload 6, 2) := by decide +kernel
theorem dL_law_3122 : decode cL_law 3122 = .ok (.if_icmp .eq 5, 3) := by decide +kernel
theorem dL_law_3127 : decode cL_law 3127 = .ok (.iload 6, 2) := by decide +kernel
theorem dL_law_3129 : decode cL_law 3129 = .ok (.ifCond .ne 36, 3) := by decide +kernel
theorem dL_law_3132 : decode cL_law 3132 = .ok (.aload 4, 2) := by decide +kernel
theorem dL_law_3134 : decode cL_law 3134 = .ok (.iconst 0, 1) := by decide +kernel
theorem dL_law_3135 : decode cL_law 3135 = .ok (.daload, 1) := by decide +kernel
theorem dL_law_3136 : decode cL_law 3136 = .ok (.fload 7, 2) := by decide +kernel
theorem dL_law_3138 : decode cL_law 3138 = .ok (.f2d, 1) := by decide +kernel
theorem dL_law_3139 : decode cL_law 3139 = .ok (.dcmp .l, 1) := by decide +kernel
theorem dL_law_3140 : decode cL_law 3140 = .ok (.ifCond .eq 25, 3) := by decide +kernel
theorem dL_law_3165 : decode cL_law 3165 = .ok (.goto 500, 3) := by decide +kernel
theorem dL_law_3168 : decode cL_law 3168 = .ok (.aload_n 1, 1) := by decide +kernel
theorem dL_law_3169 : decode cL_law 3169 = .ok (.aload_n 0, 1) := by decide +kernel
theorem dL_law_3170 : decode cL_law 3170 = .ok (.iload 5, 2) := by decide +kernel
theorem dL_law_3172 : decode cL_law 3172 = .ok (.iconst 1, 1) := by decide +kernel
theorem dL_law_3173 : decode cL_law 3173 = .ok (.iadd, 1) := by decide +kernel
theorem dL_law_3174 : decode cL_law 3174 = .ok (.iaload, 1) := by decide +kernel
theorem dL_law_3175 : decode cL_law 3175 = .ok (.aload_n 3, 1) := by decide +kernel
theorem dL_law_3176 : decode cL_law 3176 = .ok (.invokestatic 348, 3) := by decide +kernel
theorem dL_law_3179 : decode cL_law 3179 = .ok (.istore 6, 2) := by decide +kernel
theorem dL_law_3181 : decode cL_law 3181 = .ok (.aload_n 2, 1) := by decide +kernel
theorem dL_law_3182 : decode cL_law 3182 = .ok (.aload_n 0, 1) := by decide +kernel
theorem dL_law_3183 : decode cL_law 3183 = .ok (.iload 5, 2) := by decide +kernel
theorem dL_law_3185 : decode cL_law 3185 = .ok (.iconst 1, 1) := by decide +kernel
theorem dL_law_3186 : decode cL_law 3186 = .ok (.iadd, 1) := by decide +kernel
theorem dL_law_3187 : decode cL_law 3187 = .ok (.iaload, 1) := by decide +kernel
theorem dL_law_3188 : decode cL_law 3188 = .ok (.invokevirtual 350, 3) := by decide +kernel
theorem dL_law_3191 : decode cL_law 3191 = .ok (.istore 7, 2) := by decide +kernel
theorem dL_law_3193 : decode cL_law 3193 = .ok (.aload_n 2, 1) := by decide +kernel
theorem dL_law_3194 : decode cL_law 3194 = .ok (.invokevirtual 198, 3) := by decide +kernel
theorem dL_law_3197 : decode cL_law 3197 = .ok (.iload 6, 2) := by decide +kernel
theorem dL_law_3199 : decode cL_law 3199 = .ok (.if_icmp .eq 5, 3) := by decide +kernel
theorem dL_law_3204 : decode cL_law 3204 = .ok (.iload 6, 2) := by decide +kernel
theorem dL_law_3206 : decode cL_law 3206 = .ok (.ifCond .ne 15, 3) := by decide +kernel
theorem dL_law_3209 : decode cL_law 3209 = .ok (.aload_n 3, 1) := by decide +kernel
theorem dL_law_3210 : decode cL_law 3210 = .ok (.iconst 0, 1) := by decide +kernel
theorem dL_law_3211 : decode cL_law 3211 = .ok (.laload, 1) := by decide +kernel
theorem dL_law_3212 : decode cL_law 3212 = .ok (.iload 7, 2) := by decide +kernel
theorem dL_law_3214 : decode cL_law 3214 = .ok (.i2l, 1) := by decide +kernel
theorem dL_law_3215 : decode cL_law 3215 = .ok (.lcmp, 1) := by decide +kernel
theorem dL_law_3216 : decode cL_law 3216 = .ok (.ifCond .eq 5, 3) := by decide +kernel
theorem dL_law_3221 : decode cL_law 3221 = .ok (.goto 444, 3) := by decide +kernel
theorem dL_law_3224 : decode cL_law 3224 = .ok (.aload_n 1, 1) := by decide +kernel
theorem dL_law_3225 : decode cL_law 3225 = .ok (.aload_n 0, 1) := by decide +kernel
theorem dL_law_3226 : decode cL_law 3226 = .ok (.iload 5, 2) := by decide +kernel
theorem dL_law_3228 : decode cL_law 3228 = .ok (.iconst 1, 1) := by decide +kernel
theorem dL_law_3229 : decode cL_law 3229 = .ok (.iadd, 1) := by decide +kernel
theorem dL_law_3230 : decode cL_law 3230 = .ok (.iaload, 1) := by decide +kernel
theorem dL_law_3231 : decode cL_law 3231 = .ok (.aload_n 0, 1) := by decide +kernel
theorem dL_law_3232 : decode cL_law 3232 = .ok (.iload 5, 2) := by decide +kernel
theorem dL_law_3234 : decode cL_law 3234 = .ok (.iconst 2, 1) := by decide +kernel
theorem dL_law_3235 : decode cL_law 3235 = .ok (.iadd, 1) := by decide +kernel
theorem dL_law_3236 : decode cL_law 3236 = .ok (.iaload, 1) := by decide +kernel
theorem dL_law_3237 : decode cL_law 3237 = .ok (.aload_n 3, 1) := by decide +kernel
theorem dL_law_3238 : decode cL_law 3238 = .ok (.invokestatic 351, 3) := by decide +kernel
theorem dL_law_3241 : decode cL_law 3241 = .ok (.istore 6, 2) := by decide +kernel
theorem dL_law_3243 : decode cL_law 3243 = .ok (.aload_n 2, 1) := by decide +kernel
theorem dL_law_3244 : decode cL_law 3244 = .ok (.aload_n 0, 1) := by decide +kernel
theorem dL_law_3245 : decode cL_law 3245 = .ok (.iload 5, 2) := by decide +kernel
theorem dL_law_3247 : decode cL_law 3247 = .ok (.iconst 1, 1) := by decide +kernel
theorem dL_law_3248 : decode cL_law 3248 = .ok (.iadd, 1) := by decide +kernel
theorem dL_law_3249 : decode cL_law 3249 = .ok (.iaload, 1) := by decide +kernel
theorem dL_law_3250 : decode cL_law 3250 = .ok (.aload_n 0, 1) := by decide +kernel
theorem dL_law_3251 : decode cL_law 3251 = .ok (.iload 5, 2) := by decide +kernel
theorem dL_law_3253 : decode cL_law 3253 = .ok (.iconst 2, 1) := by decide +kernel
theorem dL_law_3254 : decode cL_law 3254 = .ok (.iadd, 1) := by decide +kernel
theorem dL_law_3255 : decode cL_law 3255 = .ok (.iaload, 1) := by decide +kernel
theorem dL_law_3256 : decode cL_law 3256 = .ok (.invokevirtual 353, 3) := by decide +kernel
theorem dL_law_3259 : decode cL_law 3259 = .ok (.istore 7, 2) := by decide +kernel
theorem dL_law_3261 : decode cL_law 3261 = .ok (.aload_n 2, 1) := by decide +kernel
theorem dL_law_3262 : decode cL_law 3262 = .ok (.invokevirtual 198, 3) := by decide +kernel
theorem dL_law_3265 : decode cL_law 3265 = .ok (.iload 6, 2) := by decide +kernel
theorem dL_law_3267 : decode cL_law 3267 = .ok (.if_icmp .eq 5, 3) := by decide +kernel
theorem dL_law_3272 : decode cL_law 3272 = .ok (.iload 6, 2) := by decide +kernel
theorem dL_law_3274 : decode cL_law 3274 = .ok (.ifCond .ne 15, 3) := by decide +kernel
theorem dL_law_3277 : decode cL_law 3277 = .ok (.aload_n 3, 1) := by decide +kernel
theorem dL_law_3278 : decode cL_law 3278 = .ok (.iconst 0, 1) := by decide +kernel
theorem dL_law_3279 : decode cL_law 3279 = .ok (.laload, 1) := by decide +kernel
theorem dL_law_3280 : decode cL_law 3280 = .ok (.iload 7, 2) := by decide +kernel
theorem dL_law_3282 : decode cL_law 3282 = .ok (.i2l, 1) := by decide +kernel
theorem dL_law_3283 : decode cL_law 3283 = .ok (.lcmp, 1) := by decide +kernel
theorem dL_law_3284 : decode cL_law 3284 = .ok (.ifCond .eq 5, 3) := by decide +kernel
theorem dL_law_3289 : decode cL_law 3289 = .ok (.goto 376, 3) := by decide +kernel
theorem dL_law_3292 : decode cL_law 3292 = .ok (.aload_n 1, 1) := by decide +kernel
theorem dL_law_3293 : decode cL_law 3293 = .ok (.aload_n 0, 1) := by decide +kernel
theorem dL_law_3294 : decode cL_law 3294 = .ok (.iload 5, 2) := by decide +kernel
theorem dL_law_3296 : decode cL_law 3296 = .ok (.iconst 1, 1) := by decide +kernel
theorem dL_law_3297 : decode cL_law 3297 = .ok (.iadd, 1) := by decide +kernel
theorem dL_law_3298 : decode cL_law 3298 = .ok (.iaload, 1) := by decide +kernel
theorem dL_law_3299 : decode cL_law 3299 = .ok (.aload_n 3, 1) := by decide +kernel
theorem dL_law_3300 : decode cL_law 3300 = .ok (.invokestatic 354, 3) := by decide +kernel
theorem dL_law_3303 : decode cL_law 3303 = .ok (.istore 6, 2) := by decide +kernel
